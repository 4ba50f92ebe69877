/-! FACTIONS, alike -/
section FAC
variable {xs : Nat → Int32} {sl d : Nat} {J : hJk} {s x y : hS} {g : hG}
def cntB (k : Nat) (h : Nat) : Nat := it (fun u c => c + (if k.testBit u = true then 1 else 0)) h 0
theorem cntB_le (k : Nat) : ∀ h, cntB k h ≤ h := by
  intro h
  induction h with
  | zero => exact Nat.le_refl 0
  | succ h ih =>
    unfold cntB at ih ⊢
    rw [it]
    split <;> omega
theorem cntB_mono {k k' : Nat} (hs : ∀ u, k.testBit u = true → k'.testBit u = true) : ∀ h, cntB k h ≤ cntB k' h := by
  intro h
  induction h with
  | zero => exact Nat.le_refl 0
  | succ h ih =>
    unfold cntB at ih ⊢
    rw [it, it]
    by_cases c : k.testBit h = true
    · rw [if_pos c, if_pos (hs h c)]
      omega
    · rw [if_neg c]
      split <;> omega
theorem cntB_lt {k k' u : Nat} (hs : ∀ u, k.testBit u = true → k'.testBit u = true) (h1 : k'.testBit u = true) (h2 : ¬ k.testBit u = true) : ∀ h, u < h → cntB k h < cntB k' h := by
  intro h
  induction h with
  | zero => exact fun q => absurd q (by omega)
  | succ h ih =>
    intro hu
    have m := cntB_mono hs h
    unfold cntB at ih m ⊢
    rw [it, it]
    by_cases e : u = h
    · subst e
      rw [if_neg h2, if_pos h1]
      omega
    · have := ih (by omega)
      by_cases c : k.testBit h = true
      · rw [if_pos c, if_pos (hs h c)]
        omega
      · rw [if_neg c]
        split <;> omega
theorem cntB_all {k : Nat} : ∀ h, cntB k h = h → ∀ u, u < h → k.testBit u = true := by
  intro h
  induction h with
  | zero => exact fun _ u hu => absurd hu (by omega)
  | succ h ih =>
    intro e u hu
    have l := cntB_le k h
    unfold cntB at ih l e
    rw [it] at e
    by_cases c : k.testBit h = true
    · rw [if_pos c] at e
      by_cases q : u = h
      · subst q
        exact c
      · exact ih (by omega) u (by omega)
    · rw [if_neg c] at e
      omega
theorem tb_lt {k h w : Nat} (hk : k < 2 ^ h) (hw : h ≤ w) : k.testBit w = false := Nat.testBit_lt_two_pow (Nat.lt_of_lt_of_le hk (Nat.pow_le_pow_right (by decide) hw))
theorem tb_eq {k k' h : Nat} (hk : k < 2 ^ h) (hk' : k' < 2 ^ h) (e : ∀ w, w < h → k.testBit w = k'.testBit w) : k = k' := by
  refine Nat.eq_of_testBit_eq (fun w => ?_)
  by_cases c : w < h
  · exact e w c
  · rw [tb_lt hk (by omega), tb_lt hk' (by omega)]
theorem fix_of_grow {f : Nat → Nat} {h k0 : Nat} (hext : ∀ k w, k.testBit w = true → (f k).testBit w = true) (hbnd : ∀ k, k < 2 ^ h → f k < 2 ^ h) (hb0 : k0 < 2 ^ h) (h1 : 1 ≤ cntB k0 h) : ∀ m, h - 1 ≤ m → f (it (fun _ k => f k) m k0) = it (fun _ k => f k) m k0 ∧ it (fun _ k => f k) m k0 < 2 ^ h := by
  have B : ∀ m, it (fun _ k => f k) m k0 < 2 ^ h := by
    intro m
    induction m with
    | zero => exact hb0
    | succ m ih => exact hbnd _ ih
  have G : ∀ m, f (it (fun _ k => f k) m k0) = it (fun _ k => f k) m k0 ∨ m + 1 ≤ cntB (it (fun _ k => f k) m k0) h := by
    intro m
    induction m with
    | zero => exact Or.inr h1
    | succ m ih =>
      rcases ih with q | q
      · left
        rw [it, q, q]
      · by_cases c : f (it (fun _ k => f k) m k0) = it (fun _ k => f k) m k0
        · left
          rw [it, c, c]
        · right
          have ex : ∃ w, w < h ∧ (f (it (fun _ k => f k) m k0)).testBit w = true ∧ ¬ (it (fun _ k => f k) m k0).testBit w = true := by
            refine Classical.byContradiction (fun no => c ?_)
            refine tb_eq (hbnd _ (B m)) (B m) (fun w hw => ?_)
            cases e1 : (it (fun _ k => f k) m k0).testBit w
            · cases e2 : (f (it (fun _ k => f k) m k0)).testBit w
              · rfl
              · exact absurd ⟨w, hw, e2, by rw [e1]; decide⟩ no
            · exact hext _ _ e1
          obtain ⟨w, w1, w2, w3⟩ := ex
          have l := cntB_lt (hext (it (fun _ k => f k) m k0)) w2 w3 h w1
          rw [it]
          omega
  intro m hm
  refine ⟨?_, B m⟩
  rcases G m with q | q
  · exact q
  · have l := cntB_le (it (fun _ k => f k) m k0) h
    have e : cntB (it (fun _ k => f k) m k0) h = h := by omega
    have a := cntB_all h e
    refine tb_eq (hbnd _ (B m)) (B m) (fun w hw => ?_)
    rw [a w hw, hext _ _ (a w hw)]
def anyB (p : Nat → Bool) : Nat → Nat → Bool
  | 0, _ => false
  | m + 1, i => p i || anyB p m (i + 1)
theorem anyB_iff {p : Nat → Bool} : ∀ m i, anyB p m i = true ↔ ∃ v, i ≤ v ∧ v < i + m ∧ p v = true := by
  intro m
  induction m with
  | zero =>
    intro i
    constructor
    · intro h
      cases h
    · rintro ⟨v, h1, h2, -⟩
      omega
  | succ m ih =>
    intro i
    rw [anyB, Bool.or_eq_true_iff, ih]
    constructor
    · rintro (h | ⟨v, h1, h2, h3⟩)
      · exact ⟨i, Nat.le_refl i, by omega, h⟩
      · exact ⟨v, by omega, by omega, h3⟩
    · rintro ⟨v, h1, h2, h3⟩
      by_cases e : v = i
      · subst e
        exact Or.inl h3
      · exact Or.inr ⟨v, by omega, by omega, h3⟩
/-- the class: one round wider -/
def nearB (adj : Nat → Nat → Bool) (h k u : Nat) : Bool := anyB (fun v => k.testBit v && adj v u) h 0
def widB (adj : Nat → Nat → Bool) (h k : Nat) : Nat := it (fun u w => if (!k.testBit u && nearB adj h k u) = true then w ||| 2 ^ u else w) h k
def facC (adj : Nat → Nat → Bool) (h u : Nat) : Nat := it (fun _ k => widB adj h k) (h - 1) (2 ^ u)
theorem widB_tb (adj : Nat → Nat → Bool) (h k w : Nat) : (widB adj h k).testBit w = (k.testBit w || (decide (w < h) && nearB adj h k w)) := by
  have q : ∀ n, (it (fun u w => if (!k.testBit u && nearB adj h k u) = true then w ||| 2 ^ u else w) n k).testBit w = (k.testBit w || (decide (w < n) && nearB adj h k w)) := by
    intro n
    induction n with
    | zero =>
      rw [it]
      simp
    | succ n ih =>
      rw [it]
      by_cases e : w = n
      · subst e
        rw [decide_eq_true (by omega : w < w + 1), Bool.true_and]
        rw [decide_eq_false (by omega : ¬ w < w), Bool.false_and, Bool.or_false] at ih
        split
        · rename_i c
          rw [Bool.and_eq_true_iff] at c
          rw [Nat.testBit_or, Nat.testBit_two_pow_self, c.2, Bool.or_true, Bool.or_true]
        · rename_i c
          rw [ih]
          cases e1 : k.testBit w
          · cases e2 : nearB adj h k w
            · rfl
            · exact absurd (by rw [e1, e2]; rfl) c
          · rfl
      · have d1 : decide (w < n + 1) = decide (w < n) := by
          by_cases c : w < n
          · rw [decide_eq_true c, decide_eq_true (by omega)]
          · rw [decide_eq_false c, decide_eq_false (by omega)]
        rw [d1, ← ih]
        split
        · rw [Nat.testBit_or, Nat.testBit_two_pow_of_ne (fun z => e z.symm), Bool.or_false]
        · rfl
  exact q h
theorem or_lt {a b h : Nat} (ha : a < 2 ^ h) (hb : b < h) : a ||| 2 ^ b < 2 ^ h := Nat.or_lt_two_pow ha (Nat.pow_lt_pow_right (by decide) hb)
theorem widB_lt {adj : Nat → Nat → Bool} {h k : Nat} (hk : k < 2 ^ h) : widB adj h k < 2 ^ h := by
  have q : ∀ n, n ≤ h → it (fun u w => if (!k.testBit u && nearB adj h k u) = true then w ||| 2 ^ u else w) n k < 2 ^ h := by
    intro n
    induction n with
    | zero => exact fun _ => hk
    | succ n ih =>
      intro hn
      rw [it]
      split
      · exact or_lt (ih (by omega)) (by omega)
      · exact ih (by omega)
  exact q h (Nat.le_refl h)
def closed (adj : Nat → Nat → Bool) (h k : Nat) : Prop := ∀ v w, v < h → w < h → k.testBit v = true → adj v w = true → k.testBit w = true
/-- R is the least closed set with u in it -/
def leastC (adj : Nat → Nat → Bool) (h u R : Nat) : Prop := R < 2 ^ h ∧ R.testBit u = true ∧ closed adj h R ∧ ∀ C, closed adj h C → C.testBit u = true → ∀ w, R.testBit w = true → C.testBit w = true
theorem leastC_eq {adj : Nat → Nat → Bool} {h u R R' : Nat} (h1 : leastC adj h u R) (h2 : leastC adj h u R') : R = R' := by
  obtain ⟨a1, a2, a3, a4⟩ := h1
  obtain ⟨b1, b2, b3, b4⟩ := h2
  refine tb_eq a1 b1 (fun w _ => ?_)
  cases e : R.testBit w
  · cases e2 : R'.testBit w
    · rfl
    · rw [b4 R a3 a2 w e2] at e
      cases e
  · exact (a4 R' b3 b2 w e).symm
theorem cntB_one {u h : Nat} (hu : u < h) : 1 ≤ cntB (2 ^ u) h := by
  have l := cntB_lt (k := 0) (k' := 2 ^ u) (u := u) (fun w hw => by rw [Nat.zero_testBit] at hw; cases hw) Nat.testBit_two_pow_self (by rw [Nat.zero_testBit]; decide) h hu
  omega
theorem facC_least {adj : Nat → Nat → Bool} {h u : Nat} (hu : u < h) : leastC adj h u (facC adj h u) := by
  have hext : ∀ k w, k.testBit w = true → (widB adj h k).testBit w = true := fun k w hw => by rw [widB_tb, hw, Bool.true_or]
  have p2 : 2 ^ u < 2 ^ h := Nat.pow_lt_pow_right (by decide) hu
  obtain ⟨f1, f2⟩ := fix_of_grow (f := widB adj h) hext (fun k hk => widB_lt hk) p2 (cntB_one hu) (h - 1) (Nat.le_refl _)
  refine ⟨f2, ?_, ?_, ?_⟩
  · have q : ∀ m, (it (fun _ k => widB adj h k) m (2 ^ u)).testBit u = true := by
      intro m
      induction m with
      | zero => exact Nat.testBit_two_pow_self
      | succ m ih => exact hext _ _ ih
    exact q _
  · intro v w hv hw h1 h2
    have q := widB_tb adj h (facC adj h u) w
    have e : widB adj h (facC adj h u) = facC adj h u := f1
    rw [e] at q
    rw [q]
    have n : nearB adj h (facC adj h u) w = true := (anyB_iff h 0).mpr ⟨v, by omega, by omega, by rw [h1, h2]; rfl⟩
    rw [n, decide_eq_true hw, Bool.and_self, Bool.or_true]
  · intro C hC hCu
    have q : ∀ m w, (it (fun _ k => widB adj h k) m (2 ^ u)).testBit w = true → C.testBit w = true := by
      intro m
      induction m with
      | zero =>
        intro w hw
        rw [it, Nat.testBit_two_pow] at hw
        have e : u = w := of_decide_eq_true hw
        rw [← e]
        exact hCu
      | succ m ih =>
        intro w hw
        rw [it, widB_tb, Bool.or_eq_true_iff] at hw
        rcases hw with hw | hw
        · exact ih w hw
        · rw [Bool.and_eq_true_iff, decide_eq_true_eq] at hw
          obtain ⟨v, -, v2, v3⟩ := (anyB_iff h 0).mp hw.2
          rw [Bool.and_eq_true_iff] at v3
          exact hC v w (by omega) hw.1 (ih v v3.1) v3.2
    exact q _
/-- the reference: one turn -/
def trnI (adj : Nat → Nat → Bool) (a : Nat) (b k : Nat) : Nat := if (k.testBit a && adj a b) = true then k ||| 2 ^ b else k
def trnO (adj : Nat → Nat → Bool) (h : Nat) (a k : Nat) : Nat := it (trnI adj a) h k
def trnB (adj : Nat → Nat → Bool) (h k : Nat) : Nat := it (trnO adj h) h k
def facR (adj : Nat → Nat → Bool) (h u : Nat) : Nat := it (fun _ k => trnB adj h k) h (2 ^ u)
theorem it_ext {f : Nat → Nat → Nat} (hf : ∀ i k w, k.testBit w = true → (f i k).testBit w = true) : ∀ n m k w, (it f m k).testBit w = true → (it f (m + n) k).testBit w = true := by
  intro n
  induction n with
  | zero => exact fun m k w h => h
  | succ n ih => exact fun m k w h => hf _ _ _ (ih m k w h)
theorem trnI_ext (adj : Nat → Nat → Bool) (a : Nat) : ∀ b k w, k.testBit w = true → (trnI adj a b k).testBit w = true := by
  intro b k w hw
  unfold trnI
  split
  · rw [Nat.testBit_or, hw, Bool.true_or]
  · exact hw
theorem trnO_ext (adj : Nat → Nat → Bool) (h : Nat) : ∀ a k w, k.testBit w = true → (trnO adj h a k).testBit w = true := by
  intro a k w hw
  have q := it_ext (trnI_ext adj a) h 0 k w hw
  rw [Nat.zero_add] at q
  exact q
theorem trnB_ext (adj : Nat → Nat → Bool) (h : Nat) : ∀ k w, k.testBit w = true → (trnB adj h k).testBit w = true := by
  intro k w hw
  have q := it_ext (trnO_ext adj h) h 0 k w hw
  rw [Nat.zero_add] at q
  exact q
theorem trnO_lt {adj : Nat → Nat → Bool} {h a k : Nat} (hk : k < 2 ^ h) : ∀ n, n ≤ h → it (trnI adj a) n k < 2 ^ h := by
  intro n
  induction n with
  | zero => exact fun _ => hk
  | succ n ih =>
    intro hn
    rw [it, trnI]
    split
    · exact or_lt (ih (by omega)) (by omega)
    · exact ih (by omega)
theorem trnB_lt {adj : Nat → Nat → Bool} {h k : Nat} (hk : k < 2 ^ h) : ∀ n, it (trnO adj h) n k < 2 ^ h := by
  intro n
  induction n with
  | zero => exact hk
  | succ n ih => exact trnO_lt ih h (Nat.le_refl h)
theorem it_fix {f : Nat → Nat → Nat} {n k h : Nat} (hf : ∀ i k w, k.testBit w = true → (f i k).testBit w = true) (hb : ∀ m, m ≤ n → it f m k < 2 ^ h) (e : it f n k = k) : ∀ m, m ≤ n → it f m k = k := by
  intro m hm
  have hk : k < 2 ^ h := hb 0 (by omega)
  refine tb_eq (hb m hm) hk (fun w _ => ?_)
  cases c : k.testBit w
  · cases c2 : (it f m k).testBit w
    · rfl
    · have q := it_ext hf (n - m) m k w c2
      rw [show m + (n - m) = n by omega, e, c] at q
      cases q
  · have q := it_ext hf m 0 k w c
    rw [Nat.zero_add] at q
    exact q
theorem facR_least {adj : Nat → Nat → Bool} {h u : Nat} (hu : u < h) : leastC adj h u (facR adj h u) := by
  have p2 : 2 ^ u < 2 ^ h := Nat.pow_lt_pow_right (by decide) hu
  obtain ⟨f1, f2⟩ := fix_of_grow (f := trnB adj h) (trnB_ext adj h) (fun k hk => trnB_lt hk h) p2 (cntB_one hu) h (by omega)
  refine ⟨f2, ?_, ?_, ?_⟩
  · have q : ∀ m, (it (fun _ k => trnB adj h k) m (2 ^ u)).testBit u = true := by
      intro m
      induction m with
      | zero => exact Nat.testBit_two_pow_self
      | succ m ih => exact trnB_ext _ _ _ _ ih
    exact q _
  · intro v w hv hw h1 h2
    have e : it (trnO adj h) h (facR adj h u) = facR adj h u := f1
    have o1 := it_fix (trnO_ext adj h) (fun m _ => trnB_lt f2 m) e v (by omega)
    have o2 := it_fix (trnO_ext adj h) (fun m _ => trnB_lt f2 m) e (v + 1) (by omega)
    rw [it, o1] at o2
    have i1 := it_fix (trnI_ext adj v) (fun m hm => trnO_lt f2 m hm) o2 w (by omega)
    have i2 := it_fix (trnI_ext adj v) (fun m hm => trnO_lt f2 m hm) o2 (w + 1) (by omega)
    rw [it, i1, trnI] at i2
    have c : ((facR adj h u).testBit v && adj v w) = true := by
      show (Nat.testBit (facR adj h u) v && adj v w) = true
      rw [h1, h2]
      rfl
    unfold facR at c ⊢
    rw [if_pos c] at i2
    rw [← i2, Nat.testBit_or, Nat.testBit_two_pow_self, Bool.or_true]
  · intro C hC hCu
    have q1 : ∀ a k, a < h → (∀ w, k.testBit w = true → C.testBit w = true) → ∀ n, n ≤ h → ∀ w, (it (trnI adj a) n k).testBit w = true → C.testBit w = true := by
      intro a k ha hk n
      induction n with
      | zero => exact fun _ => hk
      | succ n ih =>
        intro hn w hw
        rw [it, trnI] at hw
        split at hw
        · rename_i c
          rw [Bool.and_eq_true_iff] at c
          rw [Nat.testBit_or, Bool.or_eq_true_iff] at hw
          rcases hw with hw | hw
          · exact ih (by omega) w hw
          · rw [Nat.testBit_two_pow] at hw
            have e : n = w := of_decide_eq_true hw
            rw [← e]
            exact hC a n ha (by omega) (ih (by omega) a c.1) c.2
        · exact ih (by omega) w hw
    have q2 : ∀ k, (∀ w, k.testBit w = true → C.testBit w = true) → ∀ n, n ≤ h → ∀ w, (it (trnO adj h) n k).testBit w = true → C.testBit w = true := by
      intro k hk n
      induction n with
      | zero => exact fun _ => hk
      | succ n ih => exact fun hn w hw => q1 n _ (by omega) (ih (by omega)) h (Nat.le_refl h) w hw
    have q3 : ∀ m w, (it (fun _ k => trnB adj h k) m (2 ^ u)).testBit w = true → C.testBit w = true := by
      intro m
      induction m with
      | zero =>
        intro w hw
        rw [it, Nat.testBit_two_pow] at hw
        have e : u = w := of_decide_eq_true hw
        rw [← e]
        exact hCu
      | succ m ih => exact fun w hw => q2 _ ih h (Nat.le_refl h) w hw
    exact q3 _
theorem fac_eq {adj : Nat → Nat → Bool} {h u : Nat} (hu : u < h) : facC adj h u = facR adj h u := leastC_eq (facC_least hu) (facR_least hu)
/-- how many -/
def fcC (F : Nat → Nat) (h : Nat) : Nat × Nat := it (fun u (p : Nat × Nat) => if p.1.testBit u = true then p else (p.1 ||| F u, p.2 + 1)) h (0, 0)
def fcR (F : Nat → Nat) (h : Nat) : Nat × Nat := it (fun u (p : Nat × Nat) => (p.1 ||| F u, p.2 + (if p.1.testBit u = true then 0 else 1))) h (0, 0)
theorem fc_eq {adj : Nat → Nat → Bool} {F : Nat → Nat} {h : Nat} (hF : ∀ u, u < h → leastC adj h u (F u)) : fcC F h = fcR F h := by
  have q : ∀ n, n ≤ h → it (fun u (p : Nat × Nat) => if p.1.testBit u = true then p else (p.1 ||| F u, p.2 + 1)) n (0, 0) = it (fun u (p : Nat × Nat) => (p.1 ||| F u, p.2 + (if p.1.testBit u = true then 0 else 1))) n (0, 0) ∧ closed adj h (it (fun u (p : Nat × Nat) => if p.1.testBit u = true then p else (p.1 ||| F u, p.2 + 1)) n (0, 0)).1 := by
    intro n
    induction n with
    | zero =>
      refine fun _ => ⟨rfl, fun v w _ _ h1 _ => ?_⟩
      rw [it, Nat.zero_testBit] at h1
      cases h1
    | succ n ih =>
      intro hn
      obtain ⟨i1, i2⟩ := ih (by omega)
      rw [it, it, ← i1]
      generalize it (fun u (p : Nat × Nat) => if p.1.testBit u = true then p else (p.1 ||| F u, p.2 + 1)) n (0, 0) = p at i2 ⊢
      obtain ⟨k, c⟩ := p
      obtain ⟨f1, f2, f3, f4⟩ := hF n (by omega)
      dsimp only at i2 ⊢
      by_cases b : k.testBit n = true
      · rw [if_pos b, if_pos b]
        refine ⟨?_, i2⟩
        have e : k ||| F n = k := by
          refine Nat.eq_of_testBit_eq (fun w => ?_)
          rw [Nat.testBit_or]
          cases e1 : (F n).testBit w
          · rw [Bool.or_false]
          · rw [f4 k i2 b w e1]
            rfl
        rw [e]
        rfl
      · rw [if_neg b, if_neg b]
        refine ⟨rfl, fun v w hv hw h1 h2 => ?_⟩
        dsimp only at h1 ⊢
        rw [Nat.testBit_or, Bool.or_eq_true_iff] at h1 ⊢
        rcases h1 with h1 | h1
        · exact Or.inl (i2 v w hv hw h1 h2)
        · exact Or.inr (f3 v w hv hw h1 h2)
  exact (q h (Nat.le_refl h)).1
end FAC
