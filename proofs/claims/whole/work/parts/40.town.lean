/-! TOWN: a town in the heap; what its methods answer -/
section TOWN
variable {xs : Nat → Int32} {sl d : Nat} {H H' : mH}
/-- the cell of an object or of an int array, read -/
theorem hO_of {a ci k : Nat} {F : Nat → Value} (h : H.1 a = some (mO ci F)) : hO H a ci k = some (F k) := by
  unfold hO
  rw [h]
  exact if_pos rfl
theorem hC_of {a ci : Nat} {F : Nat → Value} (h : H.1 a = some (mO ci F)) : hC H a = some ci := by
  unfold hC
  rw [h]
theorem hA_of {a t n i : Nat} {f : Nat → Int32} (h : H.1 a = some (mI t n f)) (hi : i < n) (hn : n < 2 ^ 31) : hA H a t (nI i) = some (f i) := by
  unfold hA
  rw [h]
  dsimp only
  rw [if_pos rfl, if_neg (nI_in hi hn), nI_clamp (by omega)]
theorem hAw_of {a t n i : Nat} {f : Nat → Int32} {x : Int32} (h : H.1 a = some (mI t n f)) (hi : i < n) (hn : n < 2 ^ 31) : hAw H a t (nI i) x = some (mset H a (mI t n (va_up f i x))) := by
  unfold hAw
  rw [h]
  dsimp only
  rw [if_pos rfl, if_neg (nI_in hi hn), nI_clamp (by omega)]
theorem hOw_of {a ci k : Nat} {F : Nat → Value} {v : Value} (h : H.1 a = some (mO ci F)) : hOw H a ci k v = some (mset H a (mO ci (va_up F k v))) := by
  unfold hOw
  rw [h]
  exact if_pos rfl
/-- a town at a: five numbers S, seven rows A -/
def townF (S : Nat → Int32) (a k : Nat) : Value := if k < 5 then .int (S k) else .ref (a + 1 + (k - 5))
def townLen (j : Nat) : Nat := match j with
  | 3 => 48
  | 4 => 36
  | _ => 8
/-- an object at a: its class, what its first n fields hold -/
def isObj (H : mH) (a ci n : Nat) (P : Nat → Value) : Prop := ∃ F, H.1 a = some (mO ci F) ∧ ∀ k, k < n → F k = P k
theorem isObj.get {a ci n : Nat} {P : Nat → Value} (h : isObj H a ci n P) (k : Nat) (hk : k < n) : hO H a ci k = some (P k) := by
  obtain ⟨F, h1, h2⟩ := h
  rw [hO_of h1, h2 k hk]
theorem isObj.cls {a ci n : Nat} {P : Nat → Value} (h : isObj H a ci n P) : hC H a = some ci := by
  obtain ⟨F, h1, h2⟩ := h
  exact hC_of h1
theorem isObj.kept {a ci n : Nat} {P : Nat → Value} (h : isObj H a ci n P) (hk : H'.1 a = H.1 a) : isObj H' a ci n P := by
  obtain ⟨F, h1, h2⟩ := h
  exact ⟨F, by rw [hk]; exact h1, h2⟩
/-- a field is written: the heap behind it -/
theorem isObj.put {a ci n : Nat} {P : Nat → Value} (h : isObj H a ci n P) (k : Nat) (v : Value) : ∃ H1, hOw H a ci k v = some H1 ∧ isObj H1 a ci n (va_up P k v) ∧ (∀ j, j ≠ a → H1.1 j = H.1 j) ∧ H1.2 = H.2 := by
  obtain ⟨F, h1, h2⟩ := h
  refine ⟨_, hOw_of h1, ⟨_, if_pos rfl, fun j hj => ?_⟩, fun j hj => if_neg hj, rfl⟩
  unfold va_up
  split
  · rfl
  · exact h2 j hj
def isTown (H : mH) (a : Nat) (S : Nat → Int32) (A : Nat → Nat → Int32) : Prop := isObj H a 8 12 (townF S a) ∧ ∀ j, j < 7 → H.1 (a + 1 + j) = some (mI 0 (townLen j) (A j))
variable {a : Nat} {S : Nat → Int32} {A : Nat → Nat → Int32}
theorem isTown.num (h : isTown H a S A) (k : Nat) (hk : k < 5) : hO H a 8 k = some (.int (S k)) := by
  rw [h.1.get k (by omega), townF, if_pos hk]
theorem isTown.row (h : isTown H a S A) (k : Nat) (hk : ¬ k < 5) (hk2 : k < 12) : hO H a 8 k = some (.ref (a + 1 + (k - 5))) := by
  rw [h.1.get k hk2, townF, if_neg hk]
theorem isTown.at (h : isTown H a S A) (j i : Nat) (hj : j < 7) (hi : i < townLen j) : hA H (a + 1 + j) 0 (nI i) = some (A j i) := hA_of (h.2 j hj) hi (by unfold townLen; split <;> decide)
theorem isTown.cls (h : isTown H a S A) : hC H a = some 8 := h.1.cls
theorem isTown.kept (h : isTown H a S A) (hk : ∀ k, a ≤ k → k < a + 8 → H'.1 k = H.1 k) : isTown H' a S A := ⟨h.1.kept (hk a (by omega) (by omega)), fun j hj => by rw [hk (a + 1 + j) (by omega) (by omega)]; exact h.2 j hj⟩
def f_has (x n : Int32) : Int32 := if x < 0 then 0 else if n ≤ x then 0 else 1
theorem tw_hasHouse (h : isTown H a S A) (x : Int32) : Runs xs sl d 153 0 [some (.ref a), some (.int x)] [] H (some (.int (f_has x (S 2))), H) := by
  have o2 := h.num 2 (by decide)
  have h0 : (0 : Int32) = 0 ∨ (0 : Int32) = 1 := Or.inl rfl
  have h1 : (1 : Int32) = 0 ∨ (1 : Int32) = 1 := Or.inr rfl
  unfold f_has
  by_cases c1 : x < 0
  · simp only [r153_0, r153_1, r153_4, r153_5, r153_6, r153_9, r153_12, r153_13, r153_16, r153_17 h0, if_pos c1]
  · by_cases c2 : S 2 ≤ x
    · simp only [r153_0, r153_1, r153_4, r153_5, r153_6, r153_9, r153_12, r153_13, r153_16, r153_17 h0, if_neg c1, o2, Option.some.injEq, exists_eq_left', if_pos c2]
    · simp only [r153_0, r153_1, r153_4, r153_5, r153_6, r153_9, r153_12, r153_13, r153_16, r153_17 h1, if_neg c1, o2, Option.some.injEq, exists_eq_left', if_neg c2]
theorem tw_hasTopic (h : isTown H a S A) (x : Int32) : Runs xs sl d 154 0 [some (.ref a), some (.int x)] [] H (some (.int (f_has x (S 0))), H) := by
  have o2 := h.num 0 (by decide)
  have h0 : (0 : Int32) = 0 ∨ (0 : Int32) = 1 := Or.inl rfl
  have h1 : (1 : Int32) = 0 ∨ (1 : Int32) = 1 := Or.inr rfl
  unfold f_has
  by_cases c1 : x < 0
  · simp only [r154_0, r154_1, r154_4, r154_5, r154_6, r154_9, r154_12, r154_13, r154_16, r154_17 h0, if_pos c1]
  · by_cases c2 : S 0 ≤ x
    · simp only [r154_0, r154_1, r154_4, r154_5, r154_6, r154_9, r154_12, r154_13, r154_16, r154_17 h0, if_neg c1, o2, Option.some.injEq, exists_eq_left', if_pos c2]
    · simp only [r154_0, r154_1, r154_4, r154_5, r154_6, r154_9, r154_12, r154_13, r154_16, r154_17 h1, if_neg c1, o2, Option.some.injEq, exists_eq_left', if_neg c2]
/-- the sum of differences over the topics, from t on, k of them -/
def distL (M : Nat → Int32) (x y : Nat) : Nat → Nat → Int32 → Int32
  | 0, _, acc => acc
  | k + 1, t, acc => distL M x y k (t + 1) (acc + (if 0 ≤ M (x * 6 + t) - M (y * 6 + t) then M (x * 6 + t) - M (y * 6 + t) else 0 - (M (x * 6 + t) - M (y * 6 + t))))
theorem tw_distance_loop (h : isTown H a S A) (n x y : Nat) (hS : S 0 = nI n) (hn : n ≤ 6) (hx : x < 8) (hy : y < 8) : ∀ (k t : Nat) (acc : Int32), t + k = n → Runs xs sl (d + 1) 155 5 [some (.ref a), some (.int (nI x)), some (.int (nI y)), some (.int acc), some (.int (nI t))] [] H (some (.int (distL (A 3) x y k t acc)), H)
  | 0, t, acc, ht => by
    have o0 := h.num 0 (by decide)
    rw [hS] at o0
    have c : nI n ≤ nI t := nI_le (by omega) (by omega)
    rw [r155_5]
    simp only [r155_0, r155_1, r155_2, r155_3, r155_7, r155_8, r155_11, r155_14, r155_15, r155_16, r155_19, r155_20, r155_22, r155_23, r155_25, r155_26, r155_27, r155_28, r155_31, r155_32, r155_34, r155_35, r155_37, r155_38, r155_39, r155_43, r155_44, r155_45, r155_48, r155_51, r155_52, o0, Option.some.injEq, exists_eq_left', if_pos c, distL]
  | k + 1, t, acc, ht => by
    have o0 := h.num 0 (by decide)
    rw [hS] at o0
    have o8 : hO H a 8 8 = some (.ref (a + 1 + 3)) := h.row 8 (by decide) (by decide)
    have c : ¬ nI n ≤ nI t := nI_ge (by omega) (by omega)
    have e1 : nI x * 6 + nI t = nI (x * 6 + t) := by rw [show (6 : Int32) = nI 6 from rfl, pk_mul, nI_add]
    have e2 : nI y * 6 + nI t = nI (y * 6 + t) := by rw [show (6 : Int32) = nI 6 from rfl, pk_mul, nI_add]
    have m1 := h.at 3 (x * 6 + t) (by decide) (show _ < 48 by omega)
    have m2 := h.at 3 (y * 6 + t) (by decide) (show _ < 48 by omega)
    rw [r155_5]
    simp only [r155_0, r155_1, r155_2, r155_3, r155_7, r155_8, r155_11, r155_14, r155_15, r155_16, r155_19, r155_20, r155_22, r155_23, r155_25, r155_26, r155_27, r155_28, r155_31, r155_32, r155_34, r155_35, r155_37, r155_38, r155_39, r155_40, r155_43, r155_44, r155_45, r155_48, r155_51, r155_52, o0, o8, e1, e2, m1, m2, Option.some.injEq, exists_eq_left', if_neg c, nI_1]
    exact tw_distance_loop h n x y hS hn hx hy k (t + 1) _ (by omega)
theorem tw_distance (h : isTown H a S A) (n x y : Nat) (hS : S 0 = nI n) (hn : n ≤ 6) (hx : x < 8) (hy : y < 8) : Runs xs sl (d + 1) 155 0 [some (.ref a), some (.int (nI x)), some (.int (nI y)), none, none] [] H (some (.int (distL (A 3) x y n 0 0)), H) := by
  simp only [r155_0, r155_1, r155_2, r155_3]
  exact tw_distance_loop h n x y hS hn hx hy n 0 0 (by omega)
end TOWN
