/-! AGREE: the pure side -/
section AGP
variable {V : Nat → Int32}
def clB (V : Nat → Int32) (a b t : Nat) : Bool := decide (V (6 * a + t) * V (6 * b + t) < 0)
def clA (V : Nat → Int32) (n a b : Nat) : Bool := anyB (clB V a b) n 0
def orI (p : Nat → Bool) (n : Nat) : Bool := it (fun t b => b || p t) n false
theorem orI_iff {p : Nat → Bool} : ∀ n, orI p n = true ↔ ∃ t, t < n ∧ p t = true := by
  intro n
  unfold orI
  induction n with
  | zero =>
    constructor
    · intro h
      cases h
    · rintro ⟨t, h, -⟩
      omega
  | succ n ih =>
    rw [it, Bool.or_eq_true_iff, ih]
    constructor
    · rintro (⟨t, h1, h2⟩ | h)
      · exact ⟨t, by omega, h2⟩
      · exact ⟨n, by omega, h⟩
    · rintro ⟨t, h1, h2⟩
      by_cases e : t = n
      · subst e
        exact Or.inr h2
      · exact Or.inl ⟨t, by omega, h2⟩
theorem anyB0 {p : Nat → Bool} {n : Nat} : anyB p n 0 = true ↔ ∃ t, t < n ∧ p t = true := by
  rw [anyB_iff]
  constructor
  · rintro ⟨v, -, h2, h3⟩
    exact ⟨v, by omega, h3⟩
  · rintro ⟨v, h2, h3⟩
    exact ⟨v, by omega, by omega, h3⟩
theorem mul7 : ∀ i, i < 7 → ∀ j, j < 7 → (decide ((nI i - 3) * (nI j - 3) < 0) = ((decide ((nI i - 3) < 0) && decide (0 < (nI j - 3))) || (decide (0 < (nI i - 3)) && decide ((nI j - 3) < 0)))) := by decide +kernel
theorem mulV {x y : Int32} (hx : vw x) (hy : vw y) : x * y < 0 ↔ (x < 0 ∧ 0 < y) ∨ (0 < x ∧ y < 0) := by
  obtain ⟨i, hi, rfl⟩ := hx
  obtain ⟨j, hj, rfl⟩ := hy
  have q := mul7 i hi j hj
  rw [← decide_eq_true_eq (p := (nI i - 3) * (nI j - 3) < 0), q, Bool.or_eq_true_iff, Bool.and_eq_true_iff, Bool.and_eq_true_iff, decide_eq_true_eq, decide_eq_true_eq, decide_eq_true_eq, decide_eq_true_eq]
def VW (V : Nat → Int32) (L n : Nat) : Prop := ∀ l t, l < L → t < n → vw (V (6 * l + t))
theorem clB_symm (a b t : Nat) : clB V a b t = clB V b a t := by
  unfold clB
  rw [Int32.mul_comm]
theorem clA_symm (n a b : Nat) : clA V n a b = clA V n b a := by
  unfold clA
  rw [show clB V a b = clB V b a from funext (fun t => clB_symm a b t)]
theorem clA_irr {L n a : Nat} (h : VW V L n) (ha : a < L) : clA V n a a = false := by
  cases e : clA V n a a
  · rfl
  · obtain ⟨t, h1, h2⟩ := anyB0.mp e
    have q := (mulV (h a t ha h1) (h a t ha h1)).mp (of_decide_eq_true h2)
    rcases q with ⟨q1, q2⟩ | ⟨q1, q2⟩
    · exact absurd (Int32.lt_trans q1 q2) Int32.lt_irrefl
    · exact absurd (Int32.lt_trans q1 q2) Int32.lt_irrefl
/-- foes -/
def foF (V : Nat → Int32) (n L l : Nat) : Nat := it (fun o b => if clA V n l o = true then b ||| 2 ^ o else b) L 0
theorem foF_lt {n l : Nat} : ∀ L, foF V n L l < 2 ^ L := by
  intro L
  induction L with
  | zero => exact Nat.one_pos
  | succ L ih =>
    have e : foF V n (L + 1) l = if clA V n l L = true then foF V n L l ||| 2 ^ L else foF V n L l := rfl
    have q : foF V n L l < 2 ^ (L + 1) := Nat.lt_of_lt_of_le ih (Nat.pow_le_pow_right (by decide) (by omega))
    rw [e]
    split
    · exact or_lt q (by omega)
    · exact q
theorem foF_tb {n l o : Nat} : ∀ L, (foF V n L l).testBit o = (decide (o < L) && clA V n l o) := by
  intro L
  induction L with
  | zero =>
    rw [decide_eq_false (by omega), Bool.false_and]
    exact Nat.zero_testBit o
  | succ L ih =>
    have e : foF V n (L + 1) l = if clA V n l L = true then foF V n L l ||| 2 ^ L else foF V n L l := rfl
    rw [e]
    by_cases k : o = L
    · subst k
      rw [decide_eq_true (by omega : o < o + 1), Bool.true_and]
      rw [decide_eq_false (by omega : ¬ o < o), Bool.false_and] at ih
      cases c : clA V n l o
      · rw [if_neg (by decide), ih]
      · rw [if_pos rfl, Nat.testBit_or, Nat.testBit_two_pow_self, Bool.or_true]
    · have d1 : decide (o < L + 1) = decide (o < L) := by
        by_cases c : o < L
        · rw [decide_eq_true c, decide_eq_true (by omega)]
        · rw [decide_eq_false c, decide_eq_false (by omega)]
      rw [d1, ← ih]
      split
      · rw [Nat.testBit_or, Nat.testBit_two_pow_of_ne (fun z => k z.symm), Bool.or_false]
      · rfl
set_option maxRecDepth 4000 in
theorem bc_pow : ∀ o, o < 8 → ∀ b, b < 256 → b < 2 ^ o → bc (b + 2 ^ o) = bc b + 1 := by decide +kernel
def sumN (f : Nat → Nat) (n : Nat) : Nat := it (fun i a => a + f i) n 0
theorem bc_foF {n l : Nat} : ∀ L, L ≤ 8 → bc (foF V n L l) = sumN (fun o => if clA V n l o = true then 1 else 0) L := by
  intro L
  induction L with
  | zero => exact fun _ => (by decide : bc 0 = 0)
  | succ L ih =>
    intro hL
    have e : foF V n (L + 1) l = if clA V n l L = true then foF V n L l ||| 2 ^ L else foF V n L l := rfl
    have e2 : sumN (fun o => if clA V n l o = true then 1 else 0) (L + 1) = sumN (fun o => if clA V n l o = true then 1 else 0) L + (if clA V n l L = true then 1 else 0) := rfl
    have lt := foF_lt (V := V) (n := n) (l := l) L
    rw [e, e2, ← ih (by omega)]
    split
    · rw [or_pow lt]
      have p8 : 2 ^ L ≤ 256 := pw8 (by omega)
      exact bc_pow L (by omega) _ (by omega) lt
    · rw [Nat.add_zero]
theorem sumN_add (f f' : Nat → Nat) : ∀ n, sumN (fun i => f i + f' i) n = sumN f n + sumN f' n := by
  intro n
  induction n with
  | zero => rfl
  | succ n ih =>
    have e : ∀ f : Nat → Nat, sumN f (n + 1) = sumN f n + f n := fun _ => rfl
    rw [e, e, e, ih]
    omega
theorem sumN_congr {f f' : Nat → Nat} {n : Nat} (h : ∀ i, i < n → f i = f' i) : sumN f n = sumN f' n := it_congr (fun i a hi => by rw [h i hi])
/-- a symmetric table without a diagonal: all of it is twice the half -/
theorem sum_half {M : Nat → Nat → Nat} : ∀ L, (∀ a b, M a b = M b a) → (∀ a, a < L → M a a = 0) → sumN (fun l => sumN (M l) L) L = 2 * sumN (fun b => sumN (fun a => M a b) b) L := by
  intro L hs
  induction L with
  | zero => exact fun _ => rfl
  | succ L ih =>
    intro hd
    have e : ∀ f : Nat → Nat, sumN f (L + 1) = sumN f L + f L := fun _ => rfl
    have g1 := e (fun l => sumN (M l) (L + 1))
    have g2 := e (fun b => sumN (fun a => M a b) b)
    have g3 := e (M L)
    have g4 := hd L (by omega)
    have g5 := ih (fun a ha => hd a (by omega))
    have e1 : sumN (fun l => sumN (M l) (L + 1)) L = sumN (fun l => sumN (M l) L) L + sumN (fun l => M l L) L := by
      rw [← sumN_add]
      exact sumN_congr (fun i _ => e (M i))
    have e2 : sumN (M L) L = sumN (fun l => M l L) L := sumN_congr (fun i _ => hs L i)
    rw [g1, g2]
    omega
/-- the reference's count of couples -/
def clR (V : Nat → Int32) (n struck a b : Nat) : Bool := orI (fun t => !struck.testBit t && clB V a b t) n
def csR (V : Nat → Int32) (n L set struck : Nat) : Nat := it (fun b c => it (fun a c => c + (if (set.testBit a && set.testBit b && clR V n struck a b) = true then 1 else 0)) b c) L 0
theorem it_sum (f : Nat → Nat) : ∀ n c, it (fun i a => a + f i) n c = c + sumN f n := by
  intro n
  induction n with
  | zero => exact fun c => rfl
  | succ n ih =>
    intro c
    have e : sumN f (n + 1) = sumN f n + f n := rfl
    rw [it, ih, e]
    omega
theorem csR_sum {n L set struck : Nat} : csR V n L set struck = sumN (fun b => sumN (fun a => if (set.testBit a && set.testBit b && clR V n struck a b) = true then 1 else 0) b) L := by
  unfold csR
  exact it_congr (fun b c _ => it_sum _ b c)
theorem clR_0 {n a b : Nat} : clR V n 0 a b = clA V n a b := by
  cases e : clA V n a b
  · cases e2 : clR V n 0 a b
    · rfl
    · obtain ⟨t, h1, h2⟩ := (orI_iff n).mp e2
      rw [Nat.zero_testBit, Bool.not_false, Bool.true_and] at h2
      rw [show clA V n a b = true from anyB0.mpr ⟨t, h1, h2⟩] at e
      cases e
  · obtain ⟨t, h1, h2⟩ := anyB0.mp e
    exact (orI_iff n).mpr ⟨t, h1, by rw [Nat.zero_testBit, h2]; rfl⟩
theorem tb_full {L a : Nat} (h : a < L) : (2 ^ L - 1).testBit a = true := by rw [Nat.testBit_two_pow_sub_one, decide_eq_true h]
theorem cs_whole {n L : Nat} (hV : VW V L n) (hL : L ≤ 8) : sumN (fun l => bc (foF V n L l)) L / 2 = csR V n L (2 ^ L - 1) 0 := by
  have e1 : sumN (fun l => bc (foF V n L l)) L = sumN (fun l => sumN (fun o => if clA V n l o = true then 1 else 0) L) L := sumN_congr (fun l _ => bc_foF L hL)
  have e2 := sum_half (M := fun a b => if clA V n a b = true then 1 else 0) L (fun a b => by rw [clA_symm]) (fun a ha => by rw [clA_irr hV ha]; rfl)
  have e3 : csR V n L (2 ^ L - 1) 0 = sumN (fun b => sumN (fun a => if clA V n a b = true then 1 else 0) b) L := by
    rw [csR_sum]
    refine sumN_congr (fun b hb => sumN_congr (fun a ha => ?_))
    rw [tb_full (by omega), tb_full hb, Bool.true_and, Bool.true_and, clR_0]
  rw [e1, e2, e3]
  omega
theorem sumN_0 {f : Nat → Nat} : ∀ n, sumN f n = 0 ↔ ∀ i, i < n → f i = 0 := by
  intro n
  induction n with
  | zero => exact ⟨fun _ i hi => absurd hi (by omega), fun _ => rfl⟩
  | succ n ih =>
    have e : sumN f (n + 1) = sumN f n + f n := rfl
    rw [e]
    constructor
    · intro h i hi
      by_cases k : i = n
      · subst k
        omega
      · exact ih.mp (by omega) i (by omega)
    · intro h
      have := ih.mpr (fun i hi => h i (by omega))
      have := h n (by omega)
      omega
theorem csR_0 {n L set struck : Nat} : csR V n L set struck = 0 ↔ ∀ a b, a < b → b < L → set.testBit a = true → set.testBit b = true → clR V n struck a b = false := by
  rw [csR_sum, sumN_0]
  constructor
  · intro h a b ha hb h1 h2
    have q := (sumN_0 b).mp (h b hb) a ha
    rw [h1, h2, Bool.true_and, Bool.true_and] at q
    cases e : clR V n struck a b
    · rfl
    · rw [e] at q
      exact absurd q (by decide)
  · intro h b hb
    refine (sumN_0 b).mpr (fun a ha => ?_)
    rw [if_neg]
    intro q
    rw [Bool.and_eq_true_iff, Bool.and_eq_true_iff] at q
    rw [h a b ha hb q.1.1 q.1.2] at q
    exact absurd q.2 (by decide)
/-- peace -/
def pcF (V : Nat → Int32) (n L set : Nat) : Bool := !anyB (fun l => set.testBit l && !decide (foF V n L l &&& set = 0)) L 0
theorem pcF_iff {n L set : Nat} (hV : VW V L n) (hs : set < 2 ^ L) : pcF V n L set = true ↔ csR V n L set 0 = 0 := by
  rw [csR_0]
  have q : pcF V n L set = true ↔ ¬ ∃ l, l < L ∧ set.testBit l = true ∧ foF V n L l &&& set ≠ 0 := by
    unfold pcF
    rw [Bool.not_eq_true', ← Bool.not_eq_true, anyB0]
    refine not_congr ⟨?_, ?_⟩
    · rintro ⟨l, h1, h2⟩
      rw [Bool.and_eq_true_iff, Bool.not_eq_true', decide_eq_false_iff_not] at h2
      exact ⟨l, h1, h2.1, h2.2⟩
    · rintro ⟨l, h1, h2, h3⟩
      exact ⟨l, h1, by rw [Bool.and_eq_true_iff, Bool.not_eq_true', decide_eq_false_iff_not]; exact ⟨h2, h3⟩⟩
  rw [q]
  constructor
  · intro h a b ha hb h1 h2
    rw [clR_0]
    cases e : clA V n a b
    · rfl
    · exfalso
      refine h ⟨a, by omega, h1, fun z => ?_⟩
      have w : (foF V n L a &&& set).testBit b = true := by
        rw [Nat.testBit_and, foF_tb, decide_eq_true hb, e, h2]
        rfl
      rw [z, Nat.zero_testBit] at w
      cases w
  · rintro h ⟨l, h1, h2, h3⟩
    obtain ⟨o, ho⟩ := Nat.exists_testBit_of_ne_zero h3
    rw [Nat.testBit_and, foF_tb, Bool.and_eq_true_iff, Bool.and_eq_true_iff, decide_eq_true_eq] at ho
    obtain ⟨⟨o1, o2⟩, o3⟩ := ho
    rcases Nat.lt_trichotomy l o with k | k | k
    · have w := h l o k o1 h2 o3
      rw [clR_0, o2] at w
      cases w
    · subst k
      rw [clA_irr hV o1] at o2
      cases o2
    · have w := h o l k h1 o3 h2
      rw [clR_0, clA_symm, o2] at w
      cases w
/-- topics to strike -/
theorem clR_no {n L set : Nat} (hV : VW V L n) : csR V n L (2 ^ L - 1) set = 0 ↔ ∀ t, t < n → (abF V t L).1 = true → (abF V t L).2 = true → set.testBit t = true := by
  have ab : ∀ t c, ((abF V t c).1 = true ↔ ∃ i, i < c ∧ ¬ V (6 * i + t) ≤ 0) ∧ ((abF V t c).2 = true ↔ ∃ i, i < c ∧ ¬ 0 ≤ V (6 * i + t)) := by
    intro t c
    induction c with
    | zero =>
      refine ⟨⟨fun h => ?_, ?_⟩, ⟨fun h => ?_, ?_⟩⟩
      · cases h
      · rintro ⟨i, h, -⟩
        omega
      · cases h
      · rintro ⟨i, h, -⟩
        omega
    | succ c ih =>
      have e : abF V t (c + 1) = ((abF V t c).1 || !decide (V (6 * c + t) ≤ 0), (abF V t c).2 || !decide (0 ≤ V (6 * c + t))) := rfl
      rw [e]
      refine ⟨?_, ?_⟩
      · rw [Bool.or_eq_true_iff, ih.1, Bool.not_eq_true', decide_eq_false_iff_not]
        constructor
        · rintro (⟨i, h1, h2⟩ | h)
          · exact ⟨i, by omega, h2⟩
          · exact ⟨c, by omega, h⟩
        · rintro ⟨i, h1, h2⟩
          by_cases k : i = c
          · subst k
            exact Or.inr h2
          · exact Or.inl ⟨i, by omega, h2⟩
      · rw [Bool.or_eq_true_iff, ih.2, Bool.not_eq_true', decide_eq_false_iff_not]
        constructor
        · rintro (⟨i, h1, h2⟩ | h)
          · exact ⟨i, by omega, h2⟩
          · exact ⟨c, by omega, h⟩
        · rintro ⟨i, h1, h2⟩
          by_cases k : i = c
          · subst k
            exact Or.inr h2
          · exact Or.inl ⟨i, by omega, h2⟩
  rw [csR_0]
  constructor
  · intro h t ht h1 h2
    obtain ⟨i, i1, i2⟩ := (ab t L).1.mp h1
    obtain ⟨j, j1, j2⟩ := (ab t L).2.mp h2
    rw [Int32.not_le] at i2 j2
    cases e : set.testBit t
    · exfalso
      rcases Nat.lt_trichotomy i j with k | k | k
      · have w := h i j k j1 (tb_full i1) (tb_full j1)
        have w2 : clR V n set i j = true := (orI_iff n).mpr ⟨t, ht, by rw [e, Bool.not_false, Bool.true_and]; exact decide_eq_true ((mulV (hV i t i1 ht) (hV j t j1 ht)).mpr (Or.inr ⟨i2, j2⟩))⟩
        rw [w] at w2
        cases w2
      · subst k
        exact absurd (Int32.lt_trans i2 j2) Int32.lt_irrefl
      · have w := h j i k i1 (tb_full j1) (tb_full i1)
        have w2 : clR V n set j i = true := (orI_iff n).mpr ⟨t, ht, by rw [e, Bool.not_false, Bool.true_and]; exact decide_eq_true ((mulV (hV j t j1 ht) (hV i t i1 ht)).mpr (Or.inl ⟨j2, i2⟩))⟩
        rw [w] at w2
        cases w2
    · rfl
  · intro h a b ha hb _ _
    cases e : clR V n set a b
    · rfl
    · exfalso
      obtain ⟨t, h1, h2⟩ := (orI_iff n).mp e
      rw [Bool.and_eq_true_iff, Bool.not_eq_true'] at h2
      have w := (mulV (hV a t (by omega) h1) (hV b t hb h1)).mp (of_decide_eq_true h2.2)
      have k : (abF V t L).1 = true ∧ (abF V t L).2 = true := by
        rw [(ab t L).1, (ab t L).2]
        rcases w with ⟨w1, w2⟩ | ⟨w1, w2⟩
        · exact ⟨⟨b, hb, Int32.not_le.mpr w2⟩, ⟨a, by omega, Int32.not_le.mpr w1⟩⟩
        · exact ⟨⟨a, by omega, Int32.not_le.mpr w1⟩, ⟨b, hb, Int32.not_le.mpr w2⟩⟩
      have z := h t h1 k.1 k.2
      rw [h2.1] at z
      cases z
theorem splF_tb {r : Nat → Int32} {c t : Nat} : ∀ n, (splF r c n).testBit t = (decide (t < n) && ((abF r t c).1 && (abF r t c).2)) := by
  intro n
  induction n with
  | zero =>
    rw [decide_eq_false (by omega), Bool.false_and]
    exact Nat.zero_testBit t
  | succ n ih =>
    have e : splF r c (n + 1) = if (abF r n c).1 = true ∧ (abF r n c).2 = true then splF r c n + 2 ^ n else splF r c n := rfl
    rw [e]
    have lt := splF_lt r c n
    by_cases k : t = n
    · subst k
      rw [decide_eq_true (by omega : t < t + 1), Bool.true_and]
      rw [decide_eq_false (by omega : ¬ t < t), Bool.false_and] at ih
      split
      · rename_i q
        rw [← or_pow lt, Nat.testBit_or, Nat.testBit_two_pow_self, Bool.or_true, q.1, q.2]
        rfl
      · rename_i q
        rw [ih]
        cases e1 : (abF r t c).1
        · rfl
        · cases e2 : (abF r t c).2
          · rfl
          · exact absurd ⟨e1, e2⟩ q
    · have d1 : decide (t < n + 1) = decide (t < n) := by
        by_cases c : t < n
        · rw [decide_eq_true c, decide_eq_true (by omega)]
        · rw [decide_eq_false c, decide_eq_false (by omega)]
      rw [d1, ← ih]
      split
      · rw [← or_pow lt, Nat.testBit_or, Nat.testBit_two_pow_of_ne (fun z => k z.symm), Bool.or_false]
      · rfl
set_option maxRecDepth 10000 in
theorem bc_sub : ∀ a, a < 64 → ∀ b, b < 64 → a &&& b = a → bc a ≤ bc b ∧ (bc b ≤ bc a → b = a) := by decide +kernel
theorem sub_and {a b : Nat} (h : ∀ t, a.testBit t = true → b.testBit t = true) : a &&& b = a := by
  refine Nat.eq_of_testBit_eq (fun t => ?_)
  rw [Nat.testBit_and]
  cases e : a.testBit t
  · rfl
  · rw [h t e]
    rfl
def stkF (P : Nat → Bool) (N b0 : Nat) : Nat := it (fun set best => if (decide (bc set < bc best) && P set) = true then set else best) N b0
theorem stk_eq {n L : Nat} (hV : VW V L n) (hn : n ≤ 6) : stkF (fun set => decide (csR V n L (2 ^ L - 1) set = 0)) (2 ^ n) (2 ^ n - 1) = splF V L n := by
  have p64 : 2 ^ n ≤ 64 := Nat.pow_le_pow_right (by decide) hn
  have p0 : 0 < 2 ^ n := Nat.pow_pos (by decide)
  have lt := splF_lt V L n
  generalize hS : splF V L n = S at lt ⊢
  have P : ∀ set, csR V n L (2 ^ L - 1) set = 0 ↔ S &&& set = S := by
    intro set
    rw [clR_no hV]
    constructor
    · intro h
      refine sub_and (fun t ht => ?_)
      rw [← hS, splF_tb, Bool.and_eq_true_iff, Bool.and_eq_true_iff, decide_eq_true_eq] at ht
      exact h t ht.1 ht.2.1 ht.2.2
    · intro h t ht h1 h2
      have w : S.testBit t = true := by rw [← hS, splF_tb, decide_eq_true ht, h1, h2]; rfl
      rw [← h, Nat.testBit_and, Bool.and_eq_true_iff] at w
      exact w.2
  have full : S &&& (2 ^ n - 1) = S := sub_and (fun t ht => by
    by_cases c : t < n
    · exact tb_full c
    · rw [tb_lt lt (by omega)] at ht
      cases ht)
  have I : ∀ i, i ≤ 2 ^ n → it (fun set best => if (decide (bc set < bc best) && decide (csR V n L (2 ^ L - 1) set = 0)) = true then set else best) i (2 ^ n - 1) < 64 ∧ S &&& it (fun set best => if (decide (bc set < bc best) && decide (csR V n L (2 ^ L - 1) set = 0)) = true then set else best) i (2 ^ n - 1) = S ∧ (S < i → it (fun set best => if (decide (bc set < bc best) && decide (csR V n L (2 ^ L - 1) set = 0)) = true then set else best) i (2 ^ n - 1) = S) := by
    refine it_inv (fun i b => b < 64 ∧ S &&& b = S ∧ (S < i → b = S)) ⟨by omega, full, fun h => absurd h (by omega)⟩ ?_
    rintro i b hi ⟨h1, h2, h3⟩
    by_cases c : (decide (bc i < bc b) && decide (csR V n L (2 ^ L - 1) i = 0)) = true
    · rw [if_pos c]
      rw [Bool.and_eq_true_iff, decide_eq_true_eq, decide_eq_true_eq, P] at c
      refine ⟨by omega, c.2, fun hs => ?_⟩
      by_cases e : S = i
      · exact e.symm
      · have b1 := h3 (by omega)
        subst b1
        have q := (bc_sub _ (by omega) i (by omega) c.2).1
        omega
    · rw [if_neg c]
      refine ⟨h1, h2, fun hs => ?_⟩
      by_cases e : S = i
      · have q := bc_sub S (by omega) b h1 h2
        refine q.2 ?_
        have z : ¬ (bc i < bc b) := by
          intro z
          refine c ?_
          rw [Bool.and_eq_true_iff, decide_eq_true_eq, decide_eq_true_eq, P]
          refine ⟨z, ?_⟩
          rw [← e]
          exact Nat.and_self S
        rw [e]
        omega
      · exact h3 (by omega)
  exact (I (2 ^ n) (Nat.le_refl _)).2.2 lt
end AGP
