/-! SWAY: paths of loaves that are eaten and move -/
section PTH
def mkN : List Nat → Nat
  | [] => 0
  | l :: r => 2 ^ l + mkN r
def adB (m l : Nat) : Bool := Nat.beq (m / 2 ^ l % 2) 1 || (decide (2 ^ l + m < 256) && decide (bcN (2 ^ l + m) = bcN m + 1) && (List.range 8).all (fun j => decide ((2 ^ l + m) / 2 ^ j % 2 = if j = l then 1 else m / 2 ^ j % 2)))
theorem ad_all : ∀ m, m < 256 → ∀ l, l < 8 → adB m l = true := by decide +kernel
theorem ad_of {m l : Nat} (hm : m < 256) (hl : l < 8) (h : ¬ m / 2 ^ l % 2 = 1) : 2 ^ l + m < 256 ∧ bcN (2 ^ l + m) = bcN m + 1 ∧ ∀ j, j < 8 → (2 ^ l + m) / 2 ^ j % 2 = if j = l then 1 else m / 2 ^ j % 2 := by
  have q := ad_all m hm l hl
  unfold adB at q
  rw [beq_f h, Bool.false_or, Bool.and_eq_true_iff, Bool.and_eq_true_iff, decide_eq_true_eq, decide_eq_true_eq] at q
  exact ⟨q.1.1, q.1.2, fun j hj => of_decide_eq_true (List.all_eq_true.mp q.2 j (List.mem_range.mpr hj))⟩
theorem mk_bit : ∀ o : List Nat, o.Nodup → (∀ l ∈ o, l < 8) → mkN o < 256 ∧ bcN (mkN o) = o.length ∧ ∀ j, j < 8 → (mkN o / 2 ^ j % 2 = 1 ↔ j ∈ o) := by
  intro o
  induction o with
  | nil => exact fun _ _ => ⟨by decide, rfl, fun j _ => ⟨fun h => absurd h (by rw [mkN, Nat.zero_div]; decide), fun h => absurd h List.not_mem_nil⟩⟩
  | cons l r ih =>
    intro hn hl
    have hn' := List.nodup_cons.mp hn
    obtain ⟨i1, i2, i3⟩ := ih hn'.2 (fun j hj => hl j (List.mem_cons_of_mem _ hj))
    have l8 := hl l List.mem_cons_self
    obtain ⟨a1, a2, a3⟩ := ad_of i1 l8 (fun h => hn'.1 ((i3 l l8).mp h))
    refine ⟨a1, by rw [List.length_cons, ← i2]; exact a2, fun j hj => ?_⟩
    show (2 ^ l + mkN r) / 2 ^ j % 2 = 1 ↔ _
    rw [a3 j hj, List.mem_cons]
    by_cases c : j = l
    · rw [if_pos c]
      exact ⟨fun _ => Or.inl c, fun _ => rfl⟩
    · rw [if_neg c, i3 j hj]
      exact ⟨Or.inr, fun h => h.resolve_left c⟩
theorem mk_snoc (o : List Nat) (l : Nat) : mkN (o ++ [l]) = mkN o + 2 ^ l := by
  induction o with
  | nil => show 2 ^ l + 0 = 0 + 2 ^ l; omega
  | cons a r ih =>
    show 2 ^ a + mkN (r ++ [l]) = 2 ^ a + mkN r + 2 ^ l
    rw [ih]
    omega
theorem tl_in {u m l : Nat} {r : List Nat} (h1 : m / 2 ^ l % 2 = 1) (h2 : r ∈ ordL u (m - 2 ^ l)) : ∀ i, i ≤ 8 → 8 - i ≤ l → l < 8 → l :: r ∈ tlL u m i := by
  intro i
  induction i with
  | zero => intro _ h3 h4; omega
  | succ i ih =>
    intro hi h3 h4
    rw [tlL_s]
    by_cases c : 7 - i = l
    · rw [c, beq_t h1, cond_true, preL_eq]
      exact List.mem_append.mpr (Or.inl (List.mem_map.mpr ⟨r, h2, rfl⟩))
    · have q := ih (by omega) (by omega) h4
      by_cases c2 : m / 2 ^ (7 - i) % 2 = 1
      · rw [beq_t c2, cond_true, preL_eq]
        exact List.mem_append.mpr (Or.inr q)
      · rw [beq_f c2, cond_false]
        exact q
theorem ord_all : ∀ (o : List Nat) (u : Nat), o.Nodup → (∀ l ∈ o, l < 8) → o.length ≤ u → o ∈ ordL u (mkN o) := by
  intro o
  induction o with
  | nil =>
    intro u _ _ _
    cases u with
    | zero => exact List.mem_singleton.mpr rfl
    | succ u => exact List.mem_singleton.mpr rfl
  | cons l r ih =>
    intro u hn hl hu
    have l8 := hl l List.mem_cons_self
    obtain ⟨b1, b2, b3⟩ := mk_bit _ hn hl
    have bl := (b3 l l8).mpr List.mem_cons_self
    cases u with
    | zero => exact absurd hu (by rw [List.length_cons]; omega)
    | succ u =>
      have q := ih u (List.nodup_cons.mp hn).2 (fun j hj => hl j (List.mem_cons_of_mem _ hj)) (by rw [List.length_cons] at hu; omega)
      have ne : mkN (l :: r) ≠ 0 := by
        intro h
        rw [h, Nat.zero_div] at bl
        exact absurd bl (by decide)
      rw [ordL_s, beq_f ne, cond_false]
      refine tl_in bl ?_ 8 (Nat.le_refl 8) (by omega) l8
      rw [show mkN (l :: r) - 2 ^ l = mkN r from by show 2 ^ l + mkN r - 2 ^ l = mkN r; rw [Nat.add_sub_cancel_left]]
      exact q
theorem ord_mk : ∀ u m, m < 256 → bcN m ≤ u → ∀ o ∈ ordL u m, mkN o = m := by
  intro u
  induction u with
  | zero =>
    intro m hm hb o ho
    have e : m = 0 := Classical.byContradiction (fun c => by have := bcn_pos m hm c; omega)
    subst e
    have h : o = [] := List.mem_singleton.mp ho
    subst h
    rfl
  | succ u ih =>
    intro m hm hb o ho
    rw [ordL_s] at ho
    by_cases c : m = 0
    · rw [beq_t c, cond_true] at ho
      have h : o = [] := List.mem_singleton.mp ho
      subst h c
      rfl
    · rw [beq_f c, cond_false] at ho
      obtain ⟨l, r, h1, h2, rfl, h3⟩ := tl_mem 8 (Nat.le_refl 8) ho
      obtain ⟨b1, b2, b3⟩ := bcn_sub m hm l h1 h2
      show 2 ^ l + mkN r = m
      rw [ih (m - 2 ^ l) (Nat.lt_of_le_of_lt (Nat.sub_le _ _) hm) (by omega) r h3]
      omega
theorem eL_app {n : Nat} {V : Nat → Nat → Int32} {st : Int32} : ∀ (a b : List Nat) (p : (Nat → Int32) × Bool), eL n V st (a ++ b) p = eL n V st b (eL n V st a p) := by
  intro a
  induction a with
  | nil => exact fun _ _ => rfl
  | cons l a ih =>
    intro b p
    show eL n V st (a ++ b) _ = eL n V st b (eL n V st a _)
    exact ih b _
theorem eL_false {n : Nat} {V : Nat → Nat → Int32} {st : Int32} : ∀ (o : List Nat) (m : Nat → Int32), (eL n V st o (m, false)).2 = false := by
  intro o
  induction o with
  | nil => exact fun _ => rfl
  | cons l r ih =>
    intro m
    show (eL n V st r (_, false && _)).2 = false
    rw [Bool.false_and]
    exact ih _
def suc (n : Nat) (V : Nat → Nat → Int32) (st : Int32) (t L : Nat) : List Nat → (Nat → Int32) → Nat → Nat → Prop
  | [], m, U, M => 0 < m t ∧ U = M
  | l :: r, m, U, M => l < L ∧ U / 2 ^ l % 2 = 0 ∧ agF n m (V l) st = true ∧ mvF n m (V l) = true ∧ suc n V st t L r (fun t => nmF 1 (m t) (V l t)) (U + 2 ^ l) M
theorem mvF_congr {n : Nat} {m m' v : Nat → Int32} (h : ∀ t, t < n → m t = m' t) : mvF n m v = mvF n m' v := by
  unfold mvF
  exact it_congr (fun t p ht => by rw [h t ht])
theorem suc_congr {n t L : Nat} {V : Nat → Nat → Int32} {st : Int32} (ht : t < n) : ∀ (r : List Nat) (m m' : Nat → Int32) (U M : Nat), (∀ t, t < n → m t = m' t) → suc n V st t L r m U M → suc n V st t L r m' U M := by
  intro r
  induction r with
  | nil => exact fun m m' U M h q => ⟨by rw [← h t ht]; exact q.1, q.2⟩
  | cons l r ih =>
    intro m m' U M h q
    obtain ⟨q1, q2, q3, q4, q5⟩ := q
    exact ⟨q1, q2, by rw [← agF_eq h (fun _ _ => rfl)]; exact q3, by rw [← mvF_congr h]; exact q4, ih _ _ _ _ (fun t ht => by rw [h t ht]) q5⟩
theorem suc_set {n t L : Nat} {V : Nat → Nat → Int32} {st : Int32} (hL : L ≤ 8) : ∀ (r : List Nat) (m : Nat → Int32) (U M : Nat), U < 256 → suc n V st t L r m U M → r.Nodup ∧ (∀ l ∈ r, l < L ∧ U / 2 ^ l % 2 = 0) ∧ bcN M = bcN U + r.length ∧ M < 256 := by
  intro r
  induction r with
  | nil => exact fun m U M hU q => ⟨List.nodup_nil, fun l h => absurd h List.not_mem_nil, by rw [← q.2]; rfl, by rw [← q.2]; exact hU⟩
  | cons l r ih =>
    intro m U M hU q
    obtain ⟨q1, q2, q3, q4, q5⟩ := q
    obtain ⟨a1, a2, a3⟩ := ad_of hU (show l < 8 by omega) (by omega)
    rw [Nat.add_comm] at a1 a2
    obtain ⟨i1, i2, i3, i4⟩ := ih _ _ _ a1 q5
    have key : ∀ j ∈ r, j ≠ l ∧ U / 2 ^ j % 2 = 0 := by
      intro j hj
      obtain ⟨j1, j2⟩ := i2 j hj
      have a4 := a3 j (by omega)
      rw [Nat.add_comm, j2] at a4
      by_cases c : j = l
      · rw [if_pos c] at a4
        exact absurd a4 (by decide)
      · rw [if_neg c] at a4
        exact ⟨c, a4.symm⟩
    refine ⟨List.nodup_cons.mpr ⟨fun h => (key l h).1 rfl, i1⟩, fun j hj => ?_, by rw [i3, a2, List.length_cons]; omega, i4⟩
    rcases List.mem_cons.mp hj with rfl | hj
    · exact ⟨q1, q2⟩
    · exact ⟨(i2 j hj).1, (key j hj).2⟩
def needN (i : Nat) : Nat := min (4 - i) 2
theorem nm_dig : ∀ i, i < 7 → ∀ j, j < 7 → ∃ k, k < 7 ∧ nmF 1 (nI i - 3) (nI j - 3) = nI k - 3 ∧ k ≤ i + 1 ∧ needN i ≤ needN k + (if 0 < nI j - (3 : Int32) then 1 else 0) := by decide +kernel
theorem dig_pos : ∀ i, i < 7 → (0 < nI i - (3 : Int32) ↔ 4 ≤ i) := by decide +kernel
theorem suc_need {n t L : Nat} {V : Nat → Nat → Int32} {st : Int32} (hV : ∀ l, l < L → vw (V l t)) : ∀ (r : List Nat) (m : Nat → Int32) (U M i : Nat), i < 7 → m t = nI i - 3 → suc n V st t L r m U M → 4 ≤ i + r.length ∧ needN i ≤ (r.filter (fun l => decide (0 < V l t))).length := by
  intro r
  induction r with
  | nil =>
    intro m U M i hi e q
    have q1 := q.1
    rw [e, dig_pos i hi] at q1
    refine ⟨by show 4 ≤ i + 0; omega, ?_⟩
    unfold needN
    rw [List.filter_nil, List.length_nil]
    omega
  | cons l r ih =>
    intro m U M i hi e q
    obtain ⟨q1, q2, q3, q4, q5⟩ := q
    obtain ⟨j, hj, ej⟩ := hV l q1
    obtain ⟨k, k1, k2, k3, k4⟩ := nm_dig i hi j hj
    obtain ⟨i1, i2⟩ := ih _ _ _ k k1 (by show nmF 1 (m t) (V l t) = _; rw [e, ej]; exact k2) q5
    rw [List.length_cons, List.filter_cons]
    refine ⟨by omega, ?_⟩
    rw [← ej] at k4
    by_cases c : 0 < V l t
    · rw [if_pos c] at k4
      rw [if_pos (decide_eq_true c), List.length_cons]
      omega
    · rw [if_neg c] at k4
      rw [if_neg (by rw [decide_eq_false c]; decide)]
      omega
def sbB (m l : Nat) : Bool := (List.range 8).all (fun j => !(Nat.beq (m / 2 ^ l % 2) 1) || !(Nat.beq (m / 2 ^ j % 2) 1) || Nat.beq j l || Nat.beq ((m - 2 ^ l) / 2 ^ j % 2) 1)
theorem sb_all : ∀ m, m < 256 → ∀ l, l < 8 → sbB m l = true := by decide +kernel
theorem nodup_bc : ∀ (r : List Nat) (X : Nat), X < 256 → r.Nodup → (∀ l ∈ r, l < 8 ∧ X / 2 ^ l % 2 = 1) → r.length ≤ bcN X := by
  intro r
  induction r with
  | nil => exact fun _ _ _ _ => Nat.zero_le _
  | cons l r ih =>
    intro X hX hn h
    obtain ⟨l8, lb⟩ := h l List.mem_cons_self
    obtain ⟨b1, b2, b3⟩ := bcn_sub X hX l l8 lb
    have q := ih (X - 2 ^ l) (Nat.lt_of_le_of_lt (Nat.sub_le _ _) hX) (List.nodup_cons.mp hn).2 (fun j hj => by
      obtain ⟨j8, jb⟩ := h j (List.mem_cons_of_mem _ hj)
      have ne : j ≠ l := fun e => (List.nodup_cons.mp hn).1 (e ▸ hj)
      have z := List.all_eq_true.mp (sb_all X hX l l8) j (List.mem_range.mpr j8)
      rw [beq_t lb, beq_t jb, beq_f ne] at z
      exact ⟨j8, Nat.eq_of_beq_eq_true z⟩)
    rw [List.length_cons]
    omega
theorem mvF_s (n : Nat) (m v : Nat → Int32) : mvF (n + 1) m v = if v n = 0 then mvF n m v else if v n - m n = 0 then mvF n m v else true := rfl
theorem nmF_00 (x : Int32) : x + (if (1 : Int32) < 0 then (1 : Int32) else if (0 : Int32) < -1 then -1 else 0) = x := by
  rw [if_neg (by decide), if_neg (by decide), Int32.add_zero]
theorem mvF_no {m v : Nat → Int32} : ∀ n, mvF n m v = false → ∀ t, t < n → nmF 1 (m t) (v t) = m t := by
  intro n
  induction n with
  | zero => exact fun _ t ht => absurd ht (by omega)
  | succ n ih =>
    intro h t ht
    rw [mvF_s] at h
    have h2 : mvF n m v = false ∧ (v n = 0 ∨ v n - m n = 0) := by
      by_cases c1 : v n = 0
      · rw [if_pos c1] at h
        exact ⟨h, Or.inl c1⟩
      · rw [if_neg c1] at h
        by_cases c2 : v n - m n = 0
        · rw [if_pos c2] at h
          exact ⟨h, Or.inr c2⟩
        · rw [if_neg c2] at h
          cases h
    by_cases e : t = n
    · subst e
      unfold nmF
      rcases h2.2 with c | c
      · rw [if_pos c]
      · by_cases c1 : v t = 0
        · rw [if_pos c1]
        · rw [if_neg c1, c]
          exact nmF_00 _
    · exact ih h2.1 t (by omega)
/-- a set that sways, with no smaller one, is reached by loaves that all move -/
theorem suc_of {n t L lim : Nat} {V : Nat → Nat → Int32} {st : Int32} {m0 : Nat → Int32} (ht : t < n) (hL : L ≤ 8) (hno : ∀ M, M < 2 ^ L → bcN M < lim → swW n V st t m0 M = false) : ∀ (r a : List Nat) (m : Nat → Int32), (a ++ r).Nodup → (∀ l ∈ a ++ r, l < L) → (a ++ r).length = lim → (eL n V st a (m0, true)).2 = true → (∀ t, t < n → (eL n V st a (m0, true)).1 t = m t) → (eL n V st r (m, true)).2 = true → 0 < (eL n V st r (m, true)).1 t → suc n V st t L r m (mkN a) (mkN (a ++ r)) := by
  intro r
  induction r with
  | nil => exact fun a m _ _ _ _ _ _ h => ⟨h, by rw [List.append_nil]⟩
  | cons l r ih =>
    intro a m hnd hlt hlen ha1 ha2 h1 h2
    have hall8 : ∀ j ∈ a ++ l :: r, j < 8 := fun j hj => by have := hlt j hj; omega
    have e0 : eL n V st (l :: r) (m, true) = eL n V st r (eS n V st l m, true && agF n m (V l) st) := rfl
    rw [e0] at h1 h2
    have lL : l < L := hlt l (List.mem_append.mpr (Or.inr List.mem_cons_self))
    have nd := List.nodup_append.mp hnd
    have hla : l ∉ a := fun h => nd.2.2 l h l List.mem_cons_self rfl
    obtain ⟨b1, b2, b3⟩ := mk_bit a nd.1 (fun j hj => hall8 j (List.mem_append.mpr (Or.inl hj)))
    have bl : mkN a / 2 ^ l % 2 = 0 := by
      have : ¬ mkN a / 2 ^ l % 2 = 1 := fun h => hla ((b3 l (by omega)).mp h)
      omega
    cases cA : agF n m (V l) st with
    | false =>
      rw [cA, Bool.and_false, eL_false] at h1
      cases h1
    | true =>
      rw [cA, Bool.and_self] at h1 h2
      have eE : eS n V st l m = fun t => nmF 1 (m t) (V l t) := by unfold eS; rw [if_pos cA]
      rw [eE] at h1 h2
      have eap : a ++ l :: r = (a ++ [l]) ++ r := by rw [List.append_assoc]; rfl
      have es : eL n V st (a ++ [l]) (m0, true) = (eS n V st l (eL n V st a (m0, true)).1, (eL n V st a (m0, true)).2 && agF n (eL n V st a (m0, true)).1 (V l) st) := by rw [eL_app]; rfl
      obtain ⟨c1, c2⟩ := eS_congr (V := V) (st := st) (l := l) ha2
      cases cM : mvF n m (V l) with
      | true =>
        refine ⟨lL, bl, cA, cM, ?_⟩
        rw [eap, ← mk_snoc]
        refine ih (a ++ [l]) _ (by rw [← eap]; exact hnd) (by rw [← eap]; exact hlt) (by rw [← eap]; exact hlen) ?_ (fun t ht => ?_) h1 h2
        · rw [es, ha1, c2, cA]
          rfl
        · rw [es]
          show eS n V st l (eL n V st a (m0, true)).1 t = _
          rw [c1 t ht, eE]
      | false =>
        exfalso
        have same := mvF_no n cM
        obtain ⟨k1, k2⟩ := eL_congr (V := V) (st := st) r _ m true same
        rw [k2] at h1
        rw [k1 t ht] at h2
        have sub : (a ++ r).Sublist (a ++ l :: r) := (List.Sublist.refl a).append (List.sublist_cons_self l r)
        have nd2 : (a ++ r).Nodup := hnd.sublist sub
        have lt2 : ∀ j ∈ a ++ r, j < L := fun j hj => hlt j (sub.subset hj)
        have len2 : (a ++ r).length + 1 = lim := by
          rw [← hlen, List.length_append, List.length_append, List.length_cons]
          omega
        obtain ⟨d1, d2, d3⟩ := mk_bit (a ++ r) nd2 (fun j hj => by have := lt2 j hj; omega)
        have inO := ord_all (a ++ r) 8 nd2 (fun j hj => by have := lt2 j hj; omega) (by rw [← d2]; exact bc_le)
        obtain ⟨k3, k4⟩ := eL_congr (V := V) (st := st) r _ m true ha2
        have ea : eL n V st (a ++ r) (m0, true) = eL n V st r ((eL n V st a (m0, true)).1, true) := by
          rw [eL_app]
          have : eL n V st a (m0, true) = ((eL n V st a (m0, true)).1, true) := Prod.ext rfl ha1
          rw [this]
        have w : swW n V st t m0 (mkN (a ++ r)) = true := by
          refine List.any_eq_true.mpr ⟨a ++ r, inO, ?_⟩
          unfold swP
          rw [ea, k4, h1, k3 t ht, decide_eq_true h2]
          rfl
        have mL : mkN (a ++ r) < 2 ^ L := by
          rcases Nat.lt_or_ge (mkN (a ++ r)) (2 ^ L) with q | q
          · exact q
          · have hi : ∀ m, m < 256 → ∀ L, L < 9 → 2 ^ L ≤ m → ∃ j, j < 8 ∧ L ≤ j ∧ m / 2 ^ j % 2 = 1 := by decide +kernel
            obtain ⟨j, j1, j2, j3⟩ := hi _ d1 L (by omega) q
            have := lt2 j ((d3 j j1).mp j3)
            omega
        rw [hno _ mL (by omega)] at w
        cases w
theorem W_suc {n t L lim M : Nat} {V : Nat → Nat → Int32} {st : Int32} {m0 : Nat → Int32} (ht : t < n) (hL : L ≤ 8) (hno : ∀ M, M < 2 ^ L → bcN M < lim → swW n V st t m0 M = false) (hM : M < 2 ^ L) (hb : bcN M = lim) (hW : swW n V st t m0 M = true) : ∃ r, suc n V st t L r m0 0 M := by
  have p8 := pw8 hL
  obtain ⟨o, h1, h2⟩ := List.any_eq_true.mp hW
  have b8 : bcN M ≤ 8 := bc_le
  obtain ⟨o1, o2, o3⟩ := ord_mem 8 M (by omega) b8 o h1
  have o4 := ord_mk 8 M (by omega) b8 o h1
  have h2' := Bool.and_eq_true_iff.mp h2
  have q := suc_of ht hL hno o [] m0 o3 (fun l hl => by
    obtain ⟨l8, lb⟩ := o2 l hl
    rcases Nat.lt_or_ge l L with h9 | h9
    · exact h9
    · have h10 : M < 2 ^ l := Nat.lt_of_lt_of_le hM (Nat.pow_le_pow_right (by decide) h9)
      rw [Nat.div_eq_of_lt h10] at lb
      exact absurd lb (by decide)) (by rw [List.nil_append, o1]; exact hb) rfl (fun _ _ => rfl) h2'.1 (of_decide_eq_true h2'.2)
  rw [List.nil_append, o4] at q
  exact ⟨o, q⟩
/-- a node: the loaves eaten, one behind the other -/
def nodeP (n L : Nat) (V : Nat → Nat → Int32) (st : Int32) (m0 : Nat → Int32) (o : List Nat) (m : Nat → Int32) (U : Nat) : Prop := o.Nodup ∧ (∀ l ∈ o, l < L) ∧ mkN o = U ∧ (eL n V st o (m0, true)).2 = true ∧ ∀ t, t < n → (eL n V st o (m0, true)).1 t = m t
theorem node_W {n t L U : Nat} {V : Nat → Nat → Int32} {st : Int32} {m0 m : Nat → Int32} {o : List Nat} (ht : t < n) (hL : L ≤ 8) (h : nodeP n L V st m0 o m U) (hp' : 0 < m t) : swW n V st t m0 U = true := by
  obtain ⟨h1, h2, h3, h4, h5⟩ := h
  obtain ⟨d1, d2, d3⟩ := mk_bit o h1 (fun j hj => by have := h2 j hj; omega)
  have inO := ord_all o 8 h1 (fun j hj => by have := h2 j hj; omega) (by rw [← d2]; exact bc_le)
  rw [h3] at inO
  refine List.any_eq_true.mpr ⟨o, inO, ?_⟩
  unfold swP
  rw [h4, h5 t ht, decide_eq_true hp']
  rfl
theorem node_set {n L U : Nat} {V : Nat → Nat → Int32} {st : Int32} {m0 m : Nat → Int32} {o : List Nat} (hL : L ≤ 8) (h : nodeP n L V st m0 o m U) : U < 2 ^ L ∧ bcN U = o.length ∧ ∀ j, j < 8 → (U / 2 ^ j % 2 = 1 ↔ j ∈ o) := by
  have p8 := pw8 hL
  obtain ⟨h1, h2, h3, h4, h5⟩ := h
  obtain ⟨d1, d2, d3⟩ := mk_bit o h1 (fun j hj => by have := h2 j hj; omega)
  rw [h3] at d1 d2 d3
  refine ⟨?_, d2, d3⟩
  rcases Nat.lt_or_ge U (2 ^ L) with q | q
  · exact q
  · have hi : ∀ m, m < 256 → ∀ L, L < 9 → 2 ^ L ≤ m → ∃ j, j < 8 ∧ L ≤ j ∧ m / 2 ^ j % 2 = 1 := by decide +kernel
    obtain ⟨j, j1, j2, j3⟩ := hi _ d1 L (by omega) q
    have := h2 j ((d3 j j1).mp j3)
    omega
theorem node_go {n L U l : Nat} {V : Nat → Nat → Int32} {st : Int32} {m0 m : Nat → Int32} {o : List Nat} (hL : L ≤ 8) (h : nodeP n L V st m0 o m U) (hl : l < L) (hb : U / 2 ^ l % 2 = 0) (hA : agF n m (V l) st = true) : nodeP n L V st m0 (o ++ [l]) (fun t => nmF 1 (m t) (V l t)) (U + 2 ^ l) := by
  obtain ⟨n1, n2, n3⟩ := node_set hL h
  obtain ⟨h1, h2, h3, h4, h5⟩ := h
  have hlo : l ∉ o := fun q => by
    have := (n3 l (by omega)).mpr q
    omega
  obtain ⟨c1, c2⟩ := eS_congr (V := V) (st := st) (l := l) h5
  have es : eL n V st (o ++ [l]) (m0, true) = (eS n V st l (eL n V st o (m0, true)).1, (eL n V st o (m0, true)).2 && agF n (eL n V st o (m0, true)).1 (V l) st) := by rw [eL_app]; rfl
  have eE : eS n V st l m = fun t => nmF 1 (m t) (V l t) := by unfold eS; rw [if_pos hA]
  refine ⟨?_, fun j hj => ?_, by rw [mk_snoc, h3], ?_, fun t ht => ?_⟩
  · refine List.nodup_append.mpr ⟨h1, List.nodup_cons.mpr ⟨List.not_mem_nil, List.nodup_nil⟩, fun a ha b hb' => ?_⟩
    rw [List.mem_singleton.mp hb']
    exact fun e => hlo (e ▸ ha)
  · rcases List.mem_append.mp hj with q | q
    · exact h2 j q
    · rw [List.mem_singleton.mp q]; exact hl
  · rw [es, h4, c2, hA]
    rfl
  · rw [es]
    show eS n V st l (eL n V st o (m0, true)).1 t = _
    rw [c1 t ht, eE]
end PTH
