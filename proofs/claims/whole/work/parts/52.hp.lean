/-! THE WHOLE HEAP BY ONE TABLE: s the ints of each cell, g the longs, J what never is read -/
section HP
/-- an object's fields by their kinds: 0 an int, 1 a reference that changes, 2 none, b + 3 the cell b for good -/
def objF (l : List Nat) (j : Nat → Value) (f : Nat → Int32) (k : Nat) : Value := match l.getD k 2 with
  | 0 => .int (f k)
  | 1 => .ref (f k).toNatClampNeg
  | 2 => j k
  | b + 3 => .ref b
def lay : List (Nat × Nat × Nat × List Nat) := [
  (0, 9, 0, [4, 34, 35, 50, 68, 73, 76, 0]),
  (0, 7, 0, [5, 6, 7, 8, 9, 0, 0, 0]),
  (3, 4, 7, []),
  (3, 5, 15, []),
  (3, 6, 17, []),
  (1, 0, 3, []),
  (1, 1, 600, []),
  (0, 8, 0, [0, 0, 0, 0, 0, 11, 12, 13, 14, 15, 16, 17]),
  (1, 0, 8, []),
  (1, 0, 8, []),
  (1, 0, 8, []),
  (1, 0, 48, []),
  (1, 0, 36, []),
  (1, 0, 8, []),
  (1, 0, 8, []),
  (0, 0, 0, [0, 19]),
  (1, 0, 160, []),
  (0, 4, 0, [0, 0, 0, 21]),
  (1, 0, 36, []),
  (0, 8, 0, [0, 0, 0, 0, 0, 23, 24, 25, 26, 27, 28, 29]),
  (1, 0, 8, []),
  (1, 0, 8, []),
  (1, 0, 8, []),
  (1, 0, 48, []),
  (1, 0, 36, []),
  (1, 0, 8, []),
  (1, 0, 8, []),
  (0, 0, 0, [0, 31]),
  (1, 0, 160, []),
  (0, 4, 0, [0, 0, 0, 33]),
  (1, 0, 36, []),
  (4, 7, 3, []),
  (0, 5, 0, [36, 44, 46, 0, 0, 48, 1, 0, 0, 0, 0, 0, 0, 0, 0]),
  (0, 8, 0, [0, 0, 0, 0, 0, 37, 38, 39, 40, 41, 42, 43]),
  (1, 0, 8, []),
  (1, 0, 8, []),
  (1, 0, 8, []),
  (1, 0, 48, []),
  (1, 0, 36, []),
  (1, 0, 8, []),
  (1, 0, 8, []),
  (0, 0, 0, [0, 45]),
  (1, 0, 160, []),
  (0, 4, 0, [0, 0, 0, 47]),
  (1, 0, 36, []),
  (1, 0, 4, []),
  (5, 0, 0, []),
  (0, 6, 0, [1, 0, 59, 60, 0, 61, 62, 63, 64, 65, 66, 67]),
  (0, 8, 0, [0, 0, 0, 0, 0, 52, 53, 54, 55, 56, 57, 58]),
  (1, 0, 8, []),
  (1, 0, 8, []),
  (1, 0, 8, []),
  (1, 0, 48, []),
  (1, 0, 36, []),
  (1, 0, 8, []),
  (1, 0, 8, []),
  (1, 0, 48, []),
  (1, 0, 96, []),
  (1, 0, 16, []),
  (1, 0, 16, []),
  (1, 2, 16, []),
  (1, 0, 24, []),
  (1, 0, 24, []),
  (1, 0, 4, []),
  (1, 0, 16, []),
  (0, 3, 0, [0, 0, 0, 50, 69, 70, 71, 72, 0, 0, 0, 0, 0]),
  (1, 0, 1536, []),
  (1, 0, 256, []),
  (1, 0, 54, []),
  (1, 0, 2048, []),
  (0, 2, 0, [74, 75]),
  (1, 0, 49, []),
  (1, 0, 7, []),
  (0, 1, 0, [1, 79, 80, 1, 1, 83]),
  (0, 4, 0, [0, 0, 0, 78]),
  (1, 0, 36, []),
  (1, 0, 42, []),
  (1, 0, 42, []),
  (1, 0, 13, []),
  (1, 0, 13, []),
  (1, 0, 7, []),
  (0, 10, 0, [85, 86, 0, 0, 0, 0, 0, 0, 0, 0, 0, 87, 0, 0, 0, 88, 89, 90, 91, 92, 93, 94, 95, 0, 0, 0, 0, 96, 97, 98, 99, 100, 101, 102, 0, 0, 0, 0, 103, 104, 105, 0]),
  (1, 0, 5072, []),
  (1, 2, 3, []),
  (1, 0, 161, []),
  (1, 0, 24, []),
  (1, 0, 24, []),
  (1, 0, 4, []),
  (1, 0, 96, []),
  (1, 0, 16, []),
  (1, 0, 16, []),
  (1, 2, 16, []),
  (1, 0, 48, []),
  (1, 0, 256, []),
  (1, 0, 256, []),
  (1, 0, 256, []),
  (1, 0, 8, []),
  (1, 0, 8, []),
  (1, 0, 6561, []),
  (1, 0, 6561, []),
  (2, 0, 13, []),
  (2, 0, 13, []),
  (2, 0, 7, [])]
abbrev hJk : Type := (Nat → Nat → Value) × (Nat → Nat → Option Nat) × (Nat → Option Nat) × (Nat → Option mC) × Nat × Nat
abbrev hS : Type := Nat → Nat → Int32
abbrev hG : Type := Nat → Nat → Int64
def hcell (J : hJk) (s : hS) (g : hG) (a : Nat) : Option mC := match lay[a]? with
  | some (0, ci, _, l) => some (mO ci (objF l (J.1 a) (s a)))
  | some (1, t, n, _) => some (mI t n (s a))
  | some (2, _, n, _) => some (mJ 3 n (g a))
  | some (3, t, b, _) => some (mQ t 2 (fun i => if i < 2 then some (b + 12 * i) else J.2.1 a i))
  | some (4, _, _, _) => some (mQ 7 3 J.2.2.1)
  | _ => J.2.2.2.1 a
def hp (J : hJk) (s : hS) (g : hG) : mH := (hcell J s g, J.2.2.2.2)
variable {J : hJk} {s : hS} {g : hG} {a ci n k t i : Nat} {l : List Nat}
theorem hp_obj (h : lay[a]? = some (0, ci, n, l)) : (hp J s g).1 a = some (mO ci (objF l (J.1 a) (s a))) := by
  show hcell J s g a = _
  unfold hcell
  rw [h]
  rfl
theorem hp_arr (h : lay[a]? = some (1, t, n, l)) : (hp J s g).1 a = some (mI t n (s a)) := by
  show hcell J s g a = _
  unfold hcell
  rw [h]
  rfl
theorem hp_lng (h : lay[a]? = some (2, t, n, l)) : (hp J s g).1 a = some (mJ 3 n (g a)) := by
  show hcell J s g a = _
  unfold hcell
  rw [h]
  rfl
theorem hp_two (h : lay[a]? = some (3, t, n, l)) : (hp J s g).1 a = some (mQ t 2 (fun i => if i < 2 then some (n + 12 * i) else J.2.1 a i)) := by
  show hcell J s g a = _
  unfold hcell
  rw [h]
  rfl
theorem hcell_up {b : Nat} {f : Nat → Int32} (h : b ≠ a) : hcell J (va_up s a f) g b = hcell J s g b := by
  unfold hcell
  rw [va_up_ne s f h]
theorem hcell_upg {b : Nat} {f : Nat → Int64} (h : b ≠ a) : hcell J s (va_up g a f) b = hcell J s g b := by
  unfold hcell
  rw [va_up_ne g f h]
theorem hp_set {f : Nat → Int32} {c : mC} (h : hcell J (va_up s a f) g a = some c) : mset (hp J s g) a c = hp J (va_up s a f) g := by
  refine Prod.ext (funext fun b => ?_) rfl
  show va_up (hcell J s g) a (some c) b = hcell J (va_up s a f) g b
  by_cases e : b = a
  · subst e
    rw [va_up_self, h]
  · rw [va_up_ne _ _ e, hcell_up e]
theorem hp_setg {f : Nat → Int64} {c : mC} (h : hcell J s (va_up g a f) a = some c) : mset (hp J s g) a c = hp J s (va_up g a f) := by
  refine Prod.ext (funext fun b => ?_) rfl
  show va_up (hcell J s g) a (some c) b = hcell J s (va_up g a f) b
  by_cases e : b = a
  · subst e
    rw [va_up_self, h]
  · rw [va_up_ne _ _ e, hcell_upg e]
theorem ho_int (h : lay[a]? = some (0, ci, n, l)) (hk : l.getD k 2 = 0) : hO (hp J s g) a ci k = some (.int (s a k)) := by
  unfold hO
  rw [hp_obj h]
  dsimp only
  rw [if_pos rfl, objF, hk]
theorem ho_dyn (h : lay[a]? = some (0, ci, n, l)) (hk : l.getD k 2 = 1) : hO (hp J s g) a ci k = some (.ref (s a k).toNatClampNeg) := by
  unfold hO
  rw [hp_obj h]
  dsimp only
  rw [if_pos rfl, objF, hk]
theorem ho_ref {b : Nat} (h : lay[a]? = some (0, ci, n, l)) (hk : l.getD k 2 = b + 3) : hO (hp J s g) a ci k = some (.ref b) := by
  unfold hO
  rw [hp_obj h]
  dsimp only
  rw [if_pos rfl, objF, hk]
theorem hc_obj (h : lay[a]? = some (0, ci, n, l)) : hC (hp J s g) a = some ci := by
  unfold hC
  rw [hp_obj h]
theorem how_int {v : Int32} (h : lay[a]? = some (0, ci, n, l)) (hk : l.getD k 2 = 0) : hOw (hp J s g) a ci k (.int v) = some (hp J (va_up s a (va_up (s a) k v)) g) := by
  unfold hOw
  rw [hp_obj h]
  dsimp only
  rw [if_pos rfl]
  congr 1
  refine hp_set ?_
  unfold hcell
  rw [h, va_up_self]
  show some (mO ci (objF l (J.1 a) _)) = _
  refine congrArg (fun F => some (mO ci F)) (funext fun j => ?_)
  by_cases e : j = k
  · subst e
    rw [va_up_self, objF, hk, va_up_self]
  · rw [va_up_ne _ _ e, objF, objF, va_up_ne _ _ e]
theorem how_dyn {x : Nat} (h : lay[a]? = some (0, ci, n, l)) (hk : l.getD k 2 = 1) (hx : x < 2 ^ 31) : hOw (hp J s g) a ci k (.ref x) = some (hp J (va_up s a (va_up (s a) k (nI x))) g) := by
  unfold hOw
  rw [hp_obj h]
  dsimp only
  rw [if_pos rfl]
  congr 1
  refine hp_set ?_
  unfold hcell
  rw [h, va_up_self]
  show some (mO ci (objF l (J.1 a) _)) = _
  refine congrArg (fun F => some (mO ci F)) (funext fun j => ?_)
  by_cases e : j = k
  · subst e
    rw [va_up_self, objF, hk, va_up_self, nI_clamp hx]
  · rw [va_up_ne _ _ e, objF, objF, va_up_ne _ _ e]
theorem ha_get (h : lay[a]? = some (1, t, n, l)) (hn : n < 2 ^ 31) (hi : i < n) : hA (hp J s g) a t (nI i) = some (s a i) := hA_of (hp_arr h) hi hn
theorem ha_set {v : Int32} (h : lay[a]? = some (1, t, n, l)) (hn : n < 2 ^ 31) (hi : i < n) : hAw (hp J s g) a t (nI i) v = some (hp J (va_up s a (va_up (s a) i v)) g) := by
  rw [hAw_of (hp_arr h) hi hn]
  congr 1
  refine hp_set ?_
  unfold hcell
  rw [h, va_up_self]
  rfl
theorem hb_get (h : lay[a]? = some (1, t, n, l)) (ht : t = 1 ∨ t = 2) (hn : n < 2 ^ 31) (hi : i < n) : hB (hp J s g) a (nI i) = some (s a i) := by
  unfold hB
  rw [hp_arr h]
  dsimp only
  rw [if_pos ht, if_neg (nI_in hi hn), nI_clamp (by omega)]
theorem hb_set1 {v : Int32} (h : lay[a]? = some (1, 1, n, l)) (hn : n < 2 ^ 31) (hi : i < n) : hBw (hp J s g) a (nI i) v = some (hp J (va_up s a (va_up (s a) i (vp_nar .byte v))) g) := by
  unfold hBw
  rw [hp_arr h]
  dsimp only
  rw [if_pos rfl, if_neg (nI_in hi hn), nI_clamp (by omega)]
  congr 1
  refine hp_set ?_
  unfold hcell
  rw [h, va_up_self]
  rfl
theorem hb_set2 {v : Int32} (h : lay[a]? = some (1, 2, n, l)) (hn : n < 2 ^ 31) (hi : i < n) : hBw (hp J s g) a (nI i) v = some (hp J (va_up s a (va_up (s a) i (vp_nar .boolean v))) g) := by
  unfold hBw
  rw [hp_arr h]
  dsimp only
  rw [if_neg (by decide), if_pos rfl, if_neg (nI_in hi hn), nI_clamp (by omega)]
  congr 1
  refine hp_set ?_
  unfold hcell
  rw [h, va_up_self]
  rfl
theorem hj_get (h : lay[a]? = some (2, t, n, l)) (hn : n < 2 ^ 31) (hi : i < n) : hJ (hp J s g) a (nI i) = some (g a i) := by
  unfold hJ
  rw [hp_lng h]
  dsimp only
  rw [if_pos rfl, if_neg (nI_in hi hn), nI_clamp (by omega)]
theorem hj_set {v : Int64} (h : lay[a]? = some (2, t, n, l)) (hn : n < 2 ^ 31) (hi : i < n) : hJw (hp J s g) a (nI i) v = some (hp J s (va_up g a (va_up (g a) i v))) := by
  unfold hJw
  rw [hp_lng h]
  dsimp only
  rw [if_pos rfl, if_neg (nI_in hi hn), nI_clamp (by omega)]
  congr 1
  refine hp_setg ?_
  unfold hcell
  rw [h, va_up_self]
  rfl
theorem hl_arr (h : lay[a]? = some (1, t, n, l)) (ht : t < 8) : hLen (hp J s g) a = some (nI n) := by
  unfold hLen
  rw [hp_arr h]
  exact if_pos ht
theorem hq_two (h : lay[a]? = some (3, t, n, l)) (ht : 4 ≤ t ∧ t < 8) (hi : i < 2) : hQ (hp J s g) a (nI i) = some (.ref (n + 12 * i)) := by
  rw [hQ_of (hp_two h) ht hi (by decide), if_pos hi]
  rfl
theorem hcp_int {b m p q c : Nat} {l' : List Nat} (h : lay[a]? = some (1, 0, n, l)) (h' : lay[b]? = some (1, 0, m, l')) (hn : n < 2 ^ 31) (hm : m < 2 ^ 31) (h1 : p + c ≤ n) (h2 : q + c ≤ m) : hCp (hp J s g) a b (nI p) (nI q) (nI c) = some (hp J (va_up s b (va_cpy (s a) (s b) p q c)) g) := by
  unfold hCp
  rw [hp_arr h, hp_arr h']
  dsimp only
  rw [nI_clamp (by omega), nI_clamp (by omega), nI_clamp (by omega), if_neg, if_pos (Or.inl rfl)]
  · congr 1
    refine hp_set ?_
    unfold hcell
    rw [h', va_up_self]
    rfl
  · rintro (q | q | q | q | q | q)
    · exact q ⟨by decide, rfl⟩
    · exact nI_pos (by omega) q
    · exact nI_pos (by omega) q
    · exact nI_pos (by omega) q
    · omega
    · omega
/-- the arithmetic of counts -/
theorem nI_addL (a n : Nat) : nI a + (no_index (OfNat.ofNat n : Int32)) = nI (a + OfNat.ofNat n) := nI_add a n
theorem nI_Ladd (a n : Nat) : (no_index (OfNat.ofNat n : Int32)) + nI a = nI (OfNat.ofNat n + a) := nI_add n a
theorem nI_mulL (a n : Nat) : nI a * (no_index (OfNat.ofNat n : Int32)) = nI (OfNat.ofNat n * a) := (pk_mul a n).trans (congrArg nI (Nat.mul_comm a n))
theorem nI_Lmul (a n : Nat) : (no_index (OfNat.ofNat n : Int32)) * nI a = nI (OfNat.ofNat n * a) := pk_mul n a
theorem nI_leE {a b : Nat} (ha : a < 2 ^ 31) (hb : b < 2 ^ 31) : (nI a ≤ nI b) = (a ≤ b) := propext (nI_leI ha hb)
theorem nI_ltE {a b : Nat} (ha : a < 2 ^ 31) (hb : b < 2 ^ 31) : (nI a < nI b) = (a < b) := propext (nI_ltI ha hb)
theorem nI_eqE {a b : Nat} (ha : a < 2 ^ 31) (hb : b < 2 ^ 31) : (nI a = nI b) = (a = b) := propext (nI_eq ha hb)
theorem nI_Lle {a n : Nat} (ha : a < 2 ^ 31) (hb : (OfNat.ofNat n : Nat) < 2 ^ 31) : ((no_index (OfNat.ofNat n : Int32)) ≤ nI a) = (OfNat.ofNat n ≤ a) := propext (nI_leI hb ha)
theorem nI_leL {a n : Nat} (ha : a < 2 ^ 31) (hb : (OfNat.ofNat n : Nat) < 2 ^ 31) : (nI a ≤ (no_index (OfNat.ofNat n : Int32))) = (a ≤ OfNat.ofNat n) := propext (nI_leI ha hb)
theorem nI_Llt {a n : Nat} (ha : a < 2 ^ 31) (hb : (OfNat.ofNat n : Nat) < 2 ^ 31) : ((no_index (OfNat.ofNat n : Int32)) < nI a) = (OfNat.ofNat n < a) := propext (nI_ltI hb ha)
theorem nI_ltL {a n : Nat} (ha : a < 2 ^ 31) (hb : (OfNat.ofNat n : Nat) < 2 ^ 31) : (nI a < (no_index (OfNat.ofNat n : Int32))) = (a < OfNat.ofNat n) := propext (nI_ltI ha hb)
theorem nI_eqL {a n : Nat} (ha : a < 2 ^ 31) (hb : (OfNat.ofNat n : Nat) < 2 ^ 31) : (nI a = (no_index (OfNat.ofNat n : Int32))) = (a = OfNat.ofNat n) := propext (nI_eq ha hb)
/-- counted loops: the state behind the first steps -/
def itr {α : Type} (f : Nat → α → α) : Nat → Nat → α → α
  | 0, _, x => x
  | k + 1, i, x => itr f k (i + 1) (f i x)
/-- a loop whose head is P i x (i the counter): each step leads on -/
theorem itr_loop {α : Type} {P : Nat → α → Prop} {f : Nat → α → α} {n : Nat} (I : Nat → α → Prop) (step : ∀ i x, i < n → I i x → I (i + 1) (f i x) ∧ (P (i + 1) (f i x) → P i x)) : ∀ (k i : Nat) (x : α), i + k = n → I i x → (I n (itr f k i x) → P n (itr f k i x)) → P i x
  | 0, i, x, h, hI, q => by
    have e : i = n := by omega
    subst e
    exact q hI
  | k + 1, i, x, h, hI, q => by
    obtain ⟨a1, a2⟩ := step i x (by omega) hI
    exact a2 (itr_loop I step k (i + 1) (f i x) (by omega) a1 q)
theorem itr_inv {α : Type} {f : Nat → α → α} {n : Nat} (I : Nat → α → Prop) (step : ∀ i x, i < n → I i x → I (i + 1) (f i x)) : ∀ (k i : Nat) (x : α), i + k = n → I i x → I n (itr f k i x)
  | 0, i, x, h, hI => by
    have e : i = n := by omega
    subst e
    exact hI
  | k + 1, i, x, h, hI => itr_inv I step k (i + 1) (f i x) (by omega) (step i x (by omega) hI)
theorem itr_congr {α : Type} {f f' : Nat → α → α} {n : Nat} : ∀ (k i : Nat) (x : α), i + k = n → (∀ j y, i ≤ j → j < n → f j y = f' j y) → itr f k i x = itr f' k i x
  | 0, _, _, _, _ => rfl
  | k + 1, i, x, h, q => by
    rw [itr, itr, q i x (Nat.le_refl _) (by omega)]
    exact itr_congr k (i + 1) _ (by omega) (fun j y h1 h2 => q j y (by omega) h2)
end HP
