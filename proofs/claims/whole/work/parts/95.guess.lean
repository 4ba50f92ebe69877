/-! FITS: pure counting, and the class's tables -/
section GSS
variable {xs : Nat → Int32} {sl d : Nat} {J : hJk} {s x y : hS} {g : hG}
def shf (j : Nat) (f : Nat → Nat) (k : Nat) : Nat := if j ≤ k then f (k - j) else 0
def cst (m : Nat → Nat) (f : Nat → Nat) (k : Nat) : Nat := sumN (fun v => shf (m v) f k) 7
def dl0 (k : Nat) : Nat := if k = 0 then 1 else 0
theorem shf_shf (a b : Nat) (f : Nat → Nat) : shf a (shf b f) = shf b (shf a f) := by
  funext k
  unfold shf
  by_cases c1 : a ≤ k
  · rw [if_pos c1]
    by_cases c2 : b ≤ k
    · rw [if_pos c2]
      by_cases c3 : b ≤ k - a
      · rw [if_pos c3, if_pos (by omega)]
        congr 1
        omega
      · rw [if_neg c3, if_neg (by omega)]
    · rw [if_neg c2, if_neg (by omega)]
  · rw [if_neg c1]
    by_cases c2 : b ≤ k
    · rw [if_pos c2, if_neg (by omega)]
    · rw [if_neg c2]
theorem shf_sum (j : Nat) (F : Nat → Nat → Nat) (n k : Nat) : shf j (fun k => sumN (fun v => F v k) n) k = sumN (fun v => shf j (F v) k) n := by
  unfold shf
  by_cases c : j ≤ k
  · rw [if_pos c]
    exact sumN_congr (fun v _ => (if_pos c).symm)
  · rw [if_neg c]
    exact ((sumN_0 n).mpr (fun v _ => if_neg c)).symm
theorem shf_cst (j : Nat) (m : Nat → Nat) (f : Nat → Nat) : shf j (cst m f) = cst m (shf j f) := by
  funext k
  have e : cst m f = fun k => sumN (fun v => shf (m v) f k) 7 := rfl
  rw [e, shf_sum]
  unfold cst
  exact sumN_congr (fun v _ => by rw [shf_shf])
theorem sumN_swap (F : Nat → Nat → Nat) : ∀ a b, sumN (fun i => sumN (fun j => F i j) b) a = sumN (fun j => sumN (fun i => F i j) a) b := by
  intro a b
  induction a with
  | zero => exact ((sumN_0 b).mpr (fun _ _ => rfl)).symm
  | succ a ih =>
    have e : ∀ f : Nat → Nat, sumN f (a + 1) = sumN f a + f a := fun _ => rfl
    rw [e, ih, ← sumN_add]
    exact sumN_congr (fun j _ => (e _).symm)
theorem cst_sum (m : Nat → Nat) (F : Nat → Nat → Nat) (n k : Nat) : cst m (fun k => sumN (fun v => F v k) n) k = sumN (fun v => cst m (F v) k) n := by
  unfold cst
  rw [sumN_swap]
  exact sumN_congr (fun v _ => shf_sum _ _ _ _)
/-- rows of all topics but one; with one view of one topic; all -/
def othF (m : Nat → Nat → Nat) (but n : Nat) : Nat → Nat := it (fun t f => if t = but then f else cst (m t) f) n dl0
def onlF (m : Nat → Nat → Nat) (top v n : Nat) : Nat → Nat := it (fun t f => if t = top then shf (m t v) f else cst (m t) f) n dl0
def allF (m : Nat → Nat → Nat) (n : Nat) : Nat → Nat := it (fun t f => cst (m t) f) n dl0
theorem onl_oth {m : Nat → Nat → Nat} {top v : Nat} : ∀ n, top < n → onlF m top v n = shf (m top v) (othF m top n) := by
  have low : ∀ n, n ≤ top → onlF m top v n = othF m top n := by
    intro n hn
    unfold onlF othF
    exact it_congr (fun t f ht => by rw [if_neg (by omega), if_neg (by omega)])
  intro n
  induction n with
  | zero => exact fun h => absurd h (by omega)
  | succ n ih =>
    intro h
    have e1 : onlF m top v (n + 1) = if n = top then shf (m n v) (onlF m top v n) else cst (m n) (onlF m top v n) := rfl
    have e2 : othF m top (n + 1) = if n = top then othF m top n else cst (m n) (othF m top n) := rfl
    rw [e1, e2]
    by_cases c : n = top
    · subst c
      rw [if_pos rfl, if_pos rfl, low n (Nat.le_refl n)]
    · rw [if_neg c, if_neg c, ih (by omega), shf_cst]
theorem all_onl {m : Nat → Nat → Nat} {top : Nat} : ∀ n, top < n → allF m n = fun k => sumN (fun v => onlF m top v n k) 7 := by
  have low : ∀ n v, n ≤ top → onlF m top v n = allF m n := by
    intro n v hn
    unfold onlF allF
    exact it_congr (fun t f ht => by rw [if_neg (by omega)])
  intro n
  induction n with
  | zero => exact fun h => absurd h (by omega)
  | succ n ih =>
    intro h
    have e1 : ∀ v, onlF m top v (n + 1) = if n = top then shf (m n v) (onlF m top v n) else cst (m n) (onlF m top v n) := fun _ => rfl
    have e2 : allF m (n + 1) = cst (m n) (allF m n) := rfl
    rw [e2]
    funext k
    by_cases c : n = top
    · subst c
      unfold cst
      refine sumN_congr (fun v _ => ?_)
      rw [e1, if_pos rfl, low n v (Nat.le_refl n)]
    · rw [ih (by omega), cst_sum]
      exact sumN_congr (fun v _ => by rw [e1, if_neg c])
/-- counts stay small -/
def le7 (B : Nat) (f : Nat → Nat) : Prop := ∀ k, f k ≤ B
theorem sumN_le {f : Nat → Nat} {B : Nat} : ∀ n, (∀ i, i < n → f i ≤ B) → sumN f n ≤ n * B := by
  intro n
  induction n with
  | zero => exact fun _ => Nat.zero_le _
  | succ n ih =>
    intro h
    have e : sumN f (n + 1) = sumN f n + f n := rfl
    have a := ih (fun i hi => h i (by omega))
    have b := h n (by omega)
    rw [e, Nat.succ_mul]
    omega
theorem cst_le {B : Nat} {m f : Nat → Nat} (h : le7 B f) : le7 (7 * B) (cst m f) := fun k => sumN_le 7 (fun v _ => by
  unfold shf
  split
  · exact h _
  · exact Nat.zero_le _)
theorem shf_le {B j : Nat} {f : Nat → Nat} (h : le7 B f) : le7 B (shf j f) := fun k => by
  unfold shf
  split
  · exact h _
  · exact Nat.zero_le _
theorem le7_mono {A B : Nat} {f : Nat → Nat} (h : le7 A f) (hab : A ≤ B) : le7 B f := fun k => Nat.le_trans (h k) hab
theorem dl0_le : le7 1 dl0 := fun k => by
  unfold dl0
  split <;> omega
theorem it_le7 {S : Nat → (Nat → Nat) → (Nat → Nat)} (hS : ∀ t f B, le7 B f → le7 (7 * B) (S t f)) : ∀ n, le7 (7 ^ n) (it S n dl0) := by
  intro n
  induction n with
  | zero => exact dl0_le
  | succ n ih =>
    rw [Nat.pow_succ, Nat.mul_comm]
    exact hS _ _ _ ih
theorem oth_le (m : Nat → Nat → Nat) (but n : Nat) : le7 (7 ^ n) (othF m but n) := it_le7 (fun t f B h => by
  split
  · exact le7_mono h (by omega)
  · exact cst_le h) n
theorem onl_le (m : Nat → Nat → Nat) (top v n : Nat) : le7 (7 ^ n) (onlF m top v n) := it_le7 (fun t f B h => by
  split
  · exact le7_mono (shf_le h) (by omega)
  · exact cst_le h) n
theorem all_le (m : Nat → Nat → Nat) (n : Nat) : le7 (7 ^ n) (allF m n) := it_le7 (fun t f B h => cst_le h) n
theorem sum_shf {j P : Nat} {f : Nat → Nat} : sumN (shf j f) (P + 1) = if j ≤ P then sumN f (P - j + 1) else 0 := by
  have e : ∀ (f : Nat → Nat) n, sumN f (n + 1) = sumN f n + f n := fun _ _ => rfl
  induction P with
  | zero =>
    rw [e]
    unfold shf
    by_cases c : j ≤ 0
    · have z : j = 0 := by omega
      subst z
      rfl
    · rw [if_neg c, if_neg c]
      rfl
  | succ P ih =>
    rw [e, ih]
    by_cases c : j ≤ P
    · rw [if_pos c, if_pos (by omega), shf, if_pos (by omega), show P + 1 - j = (P - j) + 1 by omega, e f (P - j + 1)]
    · rw [if_neg c]
      by_cases c2 : j ≤ P + 1
      · have z : j = P + 1 := by omega
        subst z
        rw [if_pos (Nat.le_refl _), shf, if_pos (Nat.le_refl _), Nat.sub_self]
        rfl
      · rw [if_neg c2, shf, if_neg c2]
end GSS
