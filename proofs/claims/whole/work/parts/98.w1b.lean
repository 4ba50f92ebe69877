/-! SWAY: the orders follow each other, of any set -/
section CHN
def ascN (m : Nat) : List Nat := (List.range 8).filter (fun l => Nat.beq (m / 2 ^ l % 2) 1)
def dscN (m : Nat) : List Nat := (ascN m).reverse
def ChP (n : Nat) : List (List Nat) → Prop
  | [] => True
  | a :: r => (∀ b, r.head? = some b → nxB n (gN a) (gN b) = true) ∧ ChP n r
theorem ChP_app {n : Nat} : ∀ (A B : List (List Nat)), ChP n A → ChP n B → (∀ a b, A.getLast? = some a → B.head? = some b → nxB n (gN a) (gN b) = true) → ChP n (A ++ B) := by
  intro A
  induction A with
  | nil => exact fun B _ h _ => h
  | cons a A ih =>
    intro B hA hB h
    obtain ⟨h1, h2⟩ := hA
    cases A with
    | nil => exact ⟨fun b hb => h a b rfl hb, hB⟩
    | cons a2 A =>
      refine ⟨fun b hb => h1 b hb, ih B h2 hB (fun x y hx hy => h x y (by rw [List.getLast?_cons_cons]; exact hx) hy)⟩
theorem ChP_map {n l : Nat} (hn : ∀ a b : List Nat, nxB n (gN a) (gN b) = true → nxB (n + 1) (gN (l :: a)) (gN (l :: b)) = true) : ∀ A, ChP n A → ChP (n + 1) (A.map (fun r => l :: r)) := by
  intro A
  induction A with
  | nil => exact fun _ => trivial
  | cons a A ih =>
    intro h
    refine ⟨fun b hb => ?_, ih h.2⟩
    cases A with
    | nil => cases hb
    | cons a2 A =>
      cases hb
      exact hn _ _ (h.1 a2 rfl)
theorem chn_of {n : Nat} : ∀ (r : List (List Nat)) (a : List Nat), ChP n (a :: r) → (∀ z, (a :: r).getLast? = some z → pvF (gN z) (n - 1) = 0) → chnL n (a :: r) = true := by
  intro r
  induction r with
  | nil =>
    intro a _ h
    have e : chnL n [a] = Nat.beq (pvF (gN a) (n - 1)) 0 := rfl
    rw [e, h a rfl]
    rfl
  | cons b r ih =>
    intro a h1 h2
    have e : chnL n (a :: b :: r) = and (nxB n (gN a) (gN b)) (chnL n (b :: r)) := rfl
    rw [e, h1.1 b rfl, ih b h1.2 (fun z hz => h2 z (by rw [List.getLast?_cons_cons]; exact hz))]
    rfl
/-- the shift -/
theorem pv_sh {f f' : Nat → Nat} (h : ∀ i, f' (i + 1) = f i) : ∀ k p, pvF f k = p + 1 → pvF f' (k + 1) = p + 2 := by
  intro k
  induction k with
  | zero => intro p hp'; cases hp'
  | succ k ih =>
    intro p hp'
    rw [pvF_s] at hp'
    rw [pvF_s, h (k + 1), h k]
    cases e : Nat.blt (f (k + 1)) (f k)
    · rw [e, cond_false] at hp'
      rw [cond_false]
      omega
    · rw [e, cond_true] at hp'
      rw [cond_true]
      exact ih p hp'
theorem lg_sh {f f' : Nat → Nat} (h : ∀ i, f' (i + 1) = f i) (p : Nat) : ∀ k, p ≤ k → lgF f' (f p) (k + 1) = lgF f (f p) k + 1 := by
  intro k
  induction k with
  | zero =>
    intro hk
    have e : p = 0 := by omega
    subst e
    rw [lgF_s, h 0, blt_f (Nat.lt_irrefl _), cond_false]
    rfl
  | succ k ih =>
    intro hk
    rw [lgF_s f' (f p) (k + 1), lgF_s f (f p) k, h (k + 1)]
    cases e : Nat.blt (f (k + 1)) (f p)
    · rw [cond_false, cond_false]
    · rw [cond_true, cond_true]
      refine ih ?_
      rcases Nat.lt_or_ge p (k + 1) with h1 | h1
      · omega
      · have e2 : p = k + 1 := by omega
        rw [e2, blt_f (Nat.lt_irrefl _)] at e
        cases e
theorem nxB_mk {n p : Nat} {a b : Nat → Nat} (h1 : pvF a (n - 1) = p + 1) (h2 : ∀ q, q < n → b q = swF a p (lgF a (a p) (n - 1)) (if q ≤ p then q else p + n - q)) : nxB n a b = true := by
  unfold nxB
  dsimp only
  rw [h1, beq_f (Nat.succ_ne_zero p), cond_false, Nat.add_sub_cancel]
  generalize lgF a (a p) (n - 1) = j at *
  have key : ∀ k, k ≤ n → (Nat.rec true (fun k ih => and (Nat.beq (b k) (swF a p j (cond (Nat.ble (k + 1) (p + 1)) k (p + n - k)))) ih) k : Bool) = true := by
    intro k
    induction k with
    | zero => exact fun _ => rfl
    | succ k ih =>
      intro hk
      refine Bool.and_eq_true_iff.mpr ⟨beq_t ?_, ih (by omega)⟩
      rw [h2 k (by omega)]
      by_cases c : k ≤ p
      · rw [if_pos c, show Nat.ble (k + 1) (p + 1) = true from Nat.ble_eq.mpr (by omega), cond_true]
      · have b2 : Nat.ble (k + 1) (p + 1) = false := by
          cases e2 : Nat.ble (k + 1) (p + 1) with
          | true => exact absurd (Nat.ble_eq.mp e2) (by omega)
          | false => rfl
        rw [if_neg c, b2, cond_false]
  exact key n (Nat.le_refl n)
theorem swF_sh {f f' : Nat → Nat} (h : ∀ i, f' (i + 1) = f i) (p j k : Nat) : swF f' (p + 1) (j + 1) (k + 1) = swF f p j k := by
  unfold swF
  by_cases c1 : k = j
  · rw [beq_t c1, beq_t (congrArg Nat.succ c1), cond_true, cond_true, h]
  · rw [beq_f c1, beq_f (fun z => c1 (Nat.succ.inj z)), cond_false, cond_false]
    by_cases c2 : k = p
    · rw [beq_t c2, beq_t (congrArg Nat.succ c2), cond_true, cond_true, h]
    · rw [beq_f c2, beq_f (fun z => c2 (Nat.succ.inj z)), cond_false, cond_false, h]
theorem nxB_sh {n l : Nat} (a b : List Nat) (h : nxB n (gN a) (gN b) = true) : nxB (n + 1) (gN (l :: a)) (gN (l :: b)) = true := by
  obtain ⟨p, h1, h2⟩ := nxB_at h
  have le := pvF_le (gN a) (n - 1)
  have hs : ∀ c : List Nat, ∀ i, gN (l :: c) (i + 1) = gN c i := fun _ _ => rfl
  have n1 : n = n - 1 + 1 := by omega
  have q1 : pvF (gN (l :: a)) (n + 1 - 1) = (p + 1) + 1 := by
    rw [Nat.add_sub_cancel]
    have := pv_sh (hs a) (n - 1) p h1
    rw [← n1] at this
    exact this
  refine nxB_mk q1 (fun q hq => ?_)
  have q2 : lgF (gN (l :: a)) (gN (l :: a) (p + 1)) (n + 1 - 1) = lgF (gN a) (gN a p) (n - 1) + 1 := by
    rw [Nat.add_sub_cancel]
    have := lg_sh (hs a) p (n - 1) (by omega)
    rw [← n1] at this
    exact this
  rw [q2]
  cases q with
  | zero =>
    rw [if_pos (Nat.zero_le _)]
    unfold swF
    rw [beq_f (by omega), beq_f (by omega), cond_false, cond_false]
    rfl
  | succ q =>
    have e1 : gN (l :: b) (q + 1) = gN b q := rfl
    rw [e1, h2 q (by omega)]
    by_cases c : q ≤ p
    · rw [if_pos c, if_pos (by omega), swF_sh (hs a)]
    · rw [if_neg c, if_neg (by omega), show p + 1 + (n + 1) - (q + 1) = (p + n - q) + 1 by omega, swF_sh (hs a)]
/-- where a block ends and the next begins -/
noncomputable def bdB (m l l' : Nat) : Bool := (!(Nat.beq (m / 2 ^ l % 2) 1) || !(Nat.beq (m / 2 ^ l' % 2) 1) || !(Nat.blt l l') || (List.range 8).any (fun j => Nat.blt l j && Nat.blt j l' && Nat.beq (m / 2 ^ j % 2) 1)) || nxB (bcN m) (gN (l :: dscN (m - 2 ^ l))) (gN (l' :: ascN (m - 2 ^ l')))
theorem bd_0 : ∀ i, i < 64 → ∀ l, l < 8 → ∀ k, k < 8 → bdB i l k = true := by decide +kernel
theorem bd_1 : ∀ i, i < 64 → ∀ l, l < 8 → ∀ k, k < 8 → bdB (64 + i) l k = true := by decide +kernel
theorem bd_2 : ∀ i, i < 64 → ∀ l, l < 8 → ∀ k, k < 8 → bdB (128 + i) l k = true := by decide +kernel
theorem bd_3 : ∀ i, i < 64 → ∀ l, l < 8 → ∀ k, k < 8 → bdB (192 + i) l k = true := by decide +kernel
theorem bd_all {m l l' : Nat} (hm : m < 256) (hl : l < 8) (hl' : l' < 8) : bdB m l l' = true := by
  by_cases c1 : m < 64
  · exact bd_0 m c1 l hl l' hl'
  · by_cases c2 : m < 128
    · have := bd_1 (m - 64) (by omega) l hl l' hl'
      rwa [show 64 + (m - 64) = m by omega] at this
    · by_cases c3 : m < 192
      · have := bd_2 (m - 128) (by omega) l hl l' hl'
        rwa [show 128 + (m - 128) = m by omega] at this
      · have := bd_3 (m - 192) (by omega) l hl l' hl'
        rwa [show 192 + (m - 192) = m by omega] at this
theorem bd_nx {m l l' : Nat} (hm : m < 256) (hl : l < 8) (hl' : l' < 8) (h1 : m / 2 ^ l % 2 = 1) (h2 : m / 2 ^ l' % 2 = 1) (h3 : l < l') (h4 : ∀ j, l < j → j < l' → ¬ m / 2 ^ j % 2 = 1) : nxB (bcN m) (gN (l :: dscN (m - 2 ^ l))) (gN (l' :: ascN (m - 2 ^ l'))) = true := by
  have q := bd_all hm hl hl'
  unfold bdB at q
  have a : (List.range 8).any (fun j => Nat.blt l j && Nat.blt j l' && Nat.beq (m / 2 ^ j % 2) 1) = false := by
    cases e : (List.range 8).any (fun j => Nat.blt l j && Nat.blt j l' && Nat.beq (m / 2 ^ j % 2) 1) with
    | false => rfl
    | true =>
      obtain ⟨j, -, hj⟩ := List.any_eq_true.mp e
      have hj1 := Bool.and_eq_true_iff.mp hj
      have hj2 := Bool.and_eq_true_iff.mp hj1.1
      exact absurd (Nat.eq_of_beq_eq_true hj1.2) (h4 j (Nat.ble_eq.mp hj2.1) (Nat.ble_eq.mp hj2.2))
  rw [beq_t h1, beq_t h2, blt_t h3, a] at q
  exact q
/-- the first and the last order -/
def feB (m : Nat) : Bool := (List.range 8).all (fun l => !(Nat.beq (m / 2 ^ l % 2) 1) || (((List.range 8).any (fun j => Nat.blt j l && Nat.beq (m / 2 ^ j % 2) 1) || decide (ascN m = l :: ascN (m - 2 ^ l))) && ((List.range 8).any (fun j => Nat.blt l j && Nat.beq (m / 2 ^ j % 2) 1) || decide (dscN m = l :: dscN (m - 2 ^ l)))))
theorem fe_all : ∀ m, m < 256 → feB m = true := by decide +kernel
theorem any_f {p : Nat → Bool} (h : ∀ j, j < 8 → ¬ p j = true) : (List.range 8).any p = false := by
  cases e : (List.range 8).any p with
  | false => rfl
  | true =>
    obtain ⟨j, hj, hj2⟩ := List.any_eq_true.mp e
    exact absurd hj2 (h j (List.mem_range.mp hj))
theorem asc_hd {m l : Nat} (hm : m < 256) (hl : l < 8) (h1 : m / 2 ^ l % 2 = 1) (h2 : ∀ j, j < l → ¬ m / 2 ^ j % 2 = 1) : ascN m = l :: ascN (m - 2 ^ l) := by
  have q := List.all_eq_true.mp (fe_all m hm) l (List.mem_range.mpr hl)
  rw [beq_t h1] at q
  have a : (List.range 8).any (fun j => Nat.blt j l && Nat.beq (m / 2 ^ j % 2) 1) = false := any_f (fun j _ h => by
    have h' := Bool.and_eq_true_iff.mp h
    exact h2 j (Nat.ble_eq.mp h'.1) (Nat.eq_of_beq_eq_true h'.2))
  rw [a] at q
  have q1 := (Bool.and_eq_true_iff.mp q).1
  exact of_decide_eq_true q1
theorem dsc_hd {m l : Nat} (hm : m < 256) (hl : l < 8) (h1 : m / 2 ^ l % 2 = 1) (h2 : ∀ j, l < j → j < 8 → ¬ m / 2 ^ j % 2 = 1) : dscN m = l :: dscN (m - 2 ^ l) := by
  have q := List.all_eq_true.mp (fe_all m hm) l (List.mem_range.mpr hl)
  rw [beq_t h1] at q
  have a : (List.range 8).any (fun j => Nat.blt l j && Nat.beq (m / 2 ^ j % 2) 1) = false := any_f (fun j hj h => by
    have h' := Bool.and_eq_true_iff.mp h
    exact h2 j (Nat.ble_eq.mp h'.1) hj (Nat.eq_of_beq_eq_true h'.2))
  rw [a] at q
  have q1 := (Bool.and_eq_true_iff.mp q).2
  exact of_decide_eq_true q1
theorem dsc_pv : ∀ m, m < 256 → pvF (gN (dscN m)) (bcN m - 1) = 0 := by decide +kernel
theorem asc_at : ∀ m, m < 256 → ascB m (gN (ascN m)) = true := by decide +kernel
def CHI (m : Nat) (L : List (List Nat)) : Prop := ChP (bcN m) L ∧ L.head? = some (ascN m) ∧ L.getLast? = some (dscN m)
theorem ord_chI : ∀ u m, m < 256 → bcN m ≤ u → CHI m (ordL u m) := by
  intro u
  induction u with
  | zero =>
    intro m hm hb
    have e : m = 0 := Classical.byContradiction (fun c => by have := bcn_pos m hm c; omega)
    subst e
    exact ⟨⟨fun b hb => (by cases hb), trivial⟩, rfl, rfl⟩
  | succ u ih =>
    intro m hm hb
    rw [ordL_s]
    by_cases c : m = 0
    · subst c
      exact ⟨⟨fun b hb => (by cases hb), trivial⟩, rfl, rfl⟩
    rw [beq_f c, cond_false]
    have T : ∀ i, i ≤ 8 → ChP (bcN m) (tlL u m i) ∧ (∀ a, (tlL u m i).head? = some a → ∃ l, 8 - i ≤ l ∧ l < 8 ∧ m / 2 ^ l % 2 = 1 ∧ (∀ j, 8 - i ≤ j → j < l → ¬ m / 2 ^ j % 2 = 1) ∧ a = l :: ascN (m - 2 ^ l)) ∧ (∀ a, (tlL u m i).getLast? = some a → ∃ l, l < 8 ∧ m / 2 ^ l % 2 = 1 ∧ (∀ j, l < j → j < 8 → ¬ m / 2 ^ j % 2 = 1) ∧ a = l :: dscN (m - 2 ^ l)) ∧ (tlL u m i = [] → ∀ j, 8 - i ≤ j → j < 8 → ¬ m / 2 ^ j % 2 = 1) := by
      intro i
      induction i with
      | zero => exact fun _ => ⟨trivial, fun a h => (by cases h), fun a h => (by cases h), fun _ j h1 h2 => by omega⟩
      | succ i ihi =>
        intro hi
        obtain ⟨t1, t2, t3, t4⟩ := ihi (by omega)
        rw [tlL_s]
        have e8 : 8 - (i + 1) = 7 - i := by omega
        have l8 : 7 - i < 8 := by omega
        have e9 : 8 - i = 7 - i + 1 := by omega
        rw [e8]
        rw [e9] at t2 t4
        generalize 7 - i = l at *
        by_cases cb : m / 2 ^ l % 2 = 1
        · rw [beq_t cb, cond_true, preL_eq]
          obtain ⟨w1, w2, w3⟩ := bcn_sub m hm l l8 cb
          obtain ⟨i1, i2, i3⟩ := ih (m - 2 ^ l) (Nat.lt_of_le_of_lt (Nat.sub_le _ _) hm) (by omega)
          have mp := ChP_map (l := l) (fun a b h => nxB_sh a b h) _ i1
          rw [w1] at mp
          have hd : ((ordL u (m - 2 ^ l)).map (fun r => l :: r)).head? = some (l :: ascN (m - 2 ^ l)) := by rw [List.head?_map, i2]; rfl
          have la : ((ordL u (m - 2 ^ l)).map (fun r => l :: r)).getLast? = some (l :: dscN (m - 2 ^ l)) := by rw [List.getLast?_map, i3]; rfl
          generalize (ordL u (m - 2 ^ l)).map (fun r => l :: r) = A at *
          refine ⟨ChP_app _ _ mp t1 (fun a b ha hb' => ?_), fun a ha => ?_, fun a ha => ?_, fun h => ?_⟩
          · rw [la] at ha
            cases ha
            obtain ⟨l', v1, v2, v3, v4, rfl⟩ := t2 b hb'
            exact bd_nx hm l8 v2 cb v3 (by omega) (fun j h1 h2 => v4 j (by omega) h2)
          · rw [List.head?_append, hd] at ha
            cases ha
            exact ⟨l, Nat.le_refl l, l8, cb, fun j h1 h2 => by omega, rfl⟩
          · cases hB : tlL u m i with
            | nil =>
              rw [hB, List.append_nil, la] at ha
              cases ha
              exact ⟨l, l8, cb, fun j h1 h2 => t4 hB j (by omega) h2, rfl⟩
            | cons b B =>
              rw [hB, List.getLast?_append, ← hB] at ha
              cases e : (tlL u m i).getLast? with
              | none => rw [List.getLast?_eq_none_iff, hB] at e; cases e
              | some z =>
                rw [e] at ha
                cases ha
                exact t3 _ e
          · rw [List.append_eq_nil_iff] at h
            rw [h.1] at hd
            cases hd
        · rw [beq_f cb, cond_false]
          refine ⟨t1, fun a ha => ?_, t3, fun h j h1 h2 => ?_⟩
          · obtain ⟨l', v1, v2, v3, v4, v5⟩ := t2 a ha
            refine ⟨l', by omega, v2, v3, fun j h1 h2 => ?_, v5⟩
            by_cases e : j = l
            · rw [e]; exact cb
            · exact v4 j (by omega) h2
          · by_cases e : j = l
            · rw [e]; exact cb
            · exact t4 h j (by omega) h2
    obtain ⟨t1, t2, t3, t4⟩ := T 8 (Nat.le_refl 8)
    have ne : tlL u m 8 ≠ [] := by
      intro h
      have h2 := t4 h
      have bz : ∀ m, m < 256 → bcN m = 0 ∨ ∃ j, j < 8 ∧ m / 2 ^ j % 2 = 1 := by decide +kernel
      rcases bz m hm with q | ⟨j, j1, j2⟩
      · have := bcn_pos m hm c; omega
      · exact h2 j (by omega) j1 j2
    refine ⟨t1, ?_, ?_⟩
    · cases e : (tlL u m 8).head? with
      | none => exact absurd (List.head?_eq_none_iff.mp e) ne
      | some a =>
        obtain ⟨l, v1, v2, v3, v4, v5⟩ := t2 a e
        rw [v5, asc_hd hm v2 v3 (fun j h => v4 j (by omega) h)]
    · cases e : (tlL u m 8).getLast? with
      | none => exact absurd (List.getLast?_eq_none_iff.mp e) ne
      | some a =>
        obtain ⟨l, v2, v3, v4, v5⟩ := t3 a e
        rw [v5, dsc_hd hm v2 v3 v4]
end CHN
