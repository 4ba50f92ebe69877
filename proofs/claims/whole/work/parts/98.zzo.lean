/-! A HEAP THAT FITS THE LAYOUT IS ONE TABLE -/
section FIT
variable {J : hJk} {s : hS} {g : hG} {H H' : mH} {a ci m n k t i : Nat} {l : List Nat}
def tvI (v : Value) : Int32 := match v with
  | .int x => x
  | .ref x => nI x
  | _ => 0
def tcO (c : Option mC) : Nat → Value := match c with
  | some (.inl q) => q.2
  | _ => fun _ => .null
def tcI (c : Option mC) : Nat → Int32 := match c with
  | some (.inr (_, _, .inl f)) => f
  | _ => fun _ => 0
def tcJ (c : Option mC) : Nat → Int64 := match c with
  | some (.inr (_, _, .inr (.inl f))) => f
  | _ => fun _ => 0
def tcQ (c : Option mC) : Nat → Option Nat := match c with
  | some (.inr (_, _, .inr (.inr f))) => f
  | _ => fun _ => none
def tabS (H : mH) : hS := fun a => match lay[a]? with
  | some (0, _, _, _) => fun k => tvI (tcO (H.1 a) k)
  | _ => tcI (H.1 a)
def kfit (k : Nat) (v : Value) : Prop := match k with
  | 0 => ∃ x, v = .int x
  | 1 => ∃ x, x < 2 ^ 31 ∧ v = .ref x
  | 2 => True
  | b + 3 => v = .ref b
def cfit (c : Option mC) (w : Option (Nat × Nat × Nat × List Nat)) : Prop := match w with
  | some (0, ci, _, l) => ∃ F, c = some (mO ci F) ∧ ∀ k, kfit (l.getD k 2) (F k)
  | some (1, t, n, _) => ∃ f, c = some (mI t n f)
  | some (2, _, n, _) => ∃ f, c = some (mJ 3 n f)
  | some (3, t, b, _) => ∃ f, c = some (mQ t 2 f) ∧ ∀ i, i < 2 → f i = some (b + 12 * i)
  | some (4, _, _, _) => ∃ f, c = some (mQ 7 3 f)
  | _ => True
theorem lay4 : ∀ a, a < 103 → (lay[a]?).map (fun w => w.1) = some 4 → a = 31 := by decide +kernel
theorem lay_len : lay.length = 103 := rfl
theorem lay_lt {w : Nat × Nat × Nat × List Nat} (e : lay[a]? = some w) : a < 103 := by
  have := (List.getElem?_eq_some_iff.mp e).1
  rw [lay_len] at this
  exact this
theorem lay_31 {x n : Nat} (e : lay[a]? = some (4, x, n, l)) : a = 31 := lay4 a (lay_lt e) (by rw [e]; rfl)
theorem lay_out (h : 103 ≤ a) : lay[a]? = none := List.getElem?_eq_none (by rw [lay_len]; exact h)
theorem objF_fit {F : Nat → Value} (h : ∀ k, kfit (l.getD k 2) (F k)) : objF l F (fun k => tvI (F k)) = F := by
  funext k
  have q := h k
  unfold objF
  generalize l.getD k 2 = w at q ⊢
  match w with
  | 0 =>
    obtain ⟨x, e⟩ := q
    show Value.int (tvI (F k)) = F k
    rw [e]
    rfl
  | 1 =>
    obtain ⟨x, hx, e⟩ := q
    show Value.ref (tvI (F k)).toNatClampNeg = F k
    rw [e]
    show Value.ref (nI x).toNatClampNeg = _
    rw [nI_clamp hx]
  | 2 => rfl
  | b + 3 => exact q.symm
theorem tabS_obj {x : Nat} (e : lay[a]? = some (0, x, n, l)) : tabS H a = fun k => tvI (tcO (H.1 a) k) := by
  unfold tabS
  rw [e]
  rfl
theorem tabS_arr {x : Nat} (e : lay[a]? = some (1, x, n, l)) : tabS H a = tcI (H.1 a) := by
  unfold tabS
  rw [e]
  rfl
def mixS (P : Nat → Bool) (H : mH) (s : hS) : hS := fun a => bif P a then tabS H a else s a
def mixG (P : Nat → Bool) (H : mH) (g : hG) : hG := fun a => bif P a then tcJ (H.1 a) else g a
def mixJ (P : Nat → Bool) (H : mH) (J : hJk) : hJk := (fun a => bif P a then tcO (H.1 a) else J.1 a, fun a => bif P a then tcQ (H.1 a) else J.2.1 a, bif P 31 then tcQ (H.1 31) else J.2.2.1, H)
theorem hp_4 {x : Nat} (e : lay[a]? = some (4, x, n, l)) : (hp J s g).1 a = some (mQ 7 3 J.2.2.1) := by
  show hcell J s g a = _
  unfold hcell
  rw [e]
  rfl
theorem hp_raw (e : lay[a]? = none) : (hp J s g).1 a = J.2.2.2.1 a := by
  show hcell J s g a = _
  unfold hcell
  rw [e]
theorem hp_raw5 {k x : Nat} (e : lay[a]? = some (k + 5, x, n, l)) : (hp J s g).1 a = J.2.2.2.1 a := by
  show hcell J s g a = _
  unfold hcell
  rw [e]
  rfl
/-- a heap: where P holds it fits the layout, elsewhere it is the table's -/
theorem hp_mix (P : Nat → Bool) (h1 : ∀ a, P a = true → cfit (H.1 a) lay[a]?) (h2 : ∀ a, P a = false → H.1 a = (hp J s g).1 a) : hp (mixJ P H J) (mixS P H s) (mixG P H g) = H := by
  refine Prod.ext (funext fun a => ?_) rfl
  have q1 := h1 a
  have q2 := h2 a
  have e1 : (mixJ P H J).1 a = bif P a then tcO (H.1 a) else J.1 a := rfl
  have e2 : (mixJ P H J).2.1 a = bif P a then tcQ (H.1 a) else J.2.1 a := rfl
  have e3 : mixS P H s a = bif P a then tabS H a else s a := rfl
  have e4 : mixG P H g a = bif P a then tcJ (H.1 a) else g a := rfl
  rcases e : lay[a]? with _ | ⟨k, x, n, l⟩
  · rw [hp_raw e]
    rfl
  · match k, e with
    | 0, e =>
      rw [hp_obj e, e1, e3]
      cases c : P a with
      | true =>
        have q := q1 c
        rw [e] at q
        obtain ⟨F, f1, f2⟩ := q
        show some (mO x (objF l (tcO (H.1 a)) (tabS H a))) = H.1 a
        rw [tabS_obj e, f1]
        exact congrArg (fun F => some (mO x F)) (objF_fit f2)
      | false =>
        rw [q2 c, hp_obj e]
        rfl
    | 1, e =>
      rw [hp_arr e, e3]
      cases c : P a with
      | true =>
        have q := q1 c
        rw [e] at q
        obtain ⟨f, f1⟩ := q
        show some (mI x n (tabS H a)) = H.1 a
        rw [tabS_arr e, f1]
        rfl
      | false =>
        rw [q2 c, hp_arr e]
        rfl
    | 2, e =>
      rw [hp_lng e, e4]
      cases c : P a with
      | true =>
        have q := q1 c
        rw [e] at q
        obtain ⟨f, f1⟩ := q
        show some (mJ 3 n (tcJ (H.1 a))) = H.1 a
        rw [f1]
        rfl
      | false =>
        rw [q2 c, hp_lng e]
        rfl
    | 3, e =>
      rw [hp_two e, e2]
      cases c : P a with
      | true =>
        have q := q1 c
        rw [e] at q
        obtain ⟨f, f1, f2⟩ := q
        show some (mQ x 2 (fun i => if i < 2 then some (n + 12 * i) else tcQ (H.1 a) i)) = H.1 a
        rw [f1]
        refine congrArg (fun F => some (mQ x 2 F)) (funext fun i => ?_)
        by_cases c2 : i < 2
        · rw [if_pos c2, f2 i c2]
        · rw [if_neg c2]
          rfl
      | false =>
        rw [q2 c, hp_two e]
        rfl
    | 4, e =>
      rw [hp_4 e]
      have e5 := lay_31 e
      subst e5
      show some (mQ 7 3 (bif P 31 then tcQ (H.1 31) else J.2.2.1)) = H.1 31
      cases c : P 31 with
      | true =>
        have q := q1 c
        rw [e] at q
        obtain ⟨f, f1⟩ := q
        show some (mQ 7 3 (tcQ (H.1 31))) = H.1 31
        rw [f1]
        rfl
      | false =>
        rw [q2 c, hp_4 e]
        rfl
    | k + 5, e =>
      rw [hp_raw5 e]
      rfl
/-- cells that fit -/
theorem fit_obj {P : Nat → Value} (e : lay[a]? = some (0, ci, m, l)) (h : isObj H a ci n P) (hl : l.length = n) (hk : ∀ k, k < n → kfit (l.getD k 2) (P k)) : cfit (H.1 a) lay[a]? := by
  obtain ⟨F, f1, f2⟩ := h
  rw [e]
  refine ⟨F, f1, fun k => ?_⟩
  by_cases c : k < n
  · rw [f2 k c]
    exact hk k c
  · have e2 : l.getD k 2 = 2 := by
      rw [List.getD_eq_getElem?_getD, List.getElem?_eq_none (by omega)]
      rfl
    rw [e2]
    trivial
theorem fit_arr (e : lay[a]? = some (1, t, n, l)) (h : arrOf H a t n) : cfit (H.1 a) lay[a]? := by
  rw [e]
  exact h
theorem fit_lng (e : lay[a]? = some (2, t, n, l)) (h : lngOf H a n) : cfit (H.1 a) lay[a]? := by
  rw [e]
  exact h
theorem fit_two (e : lay[a]? = some (3, t, n, l)) (h : refsTo H a t n) : cfit (H.1 a) lay[a]? := by
  rw [e]
  exact h
theorem tab_obj {P : Nat → Value} (e : lay[a]? = some (0, ci, m, l)) (h : isObj H a ci n P) (hk : k < n) : tabS H a k = tvI (P k) := by
  obtain ⟨F, f1, f2⟩ := h
  rw [tabS_obj e, f1]
  show tvI (F k) = _
  rw [f2 k hk]
theorem tab_arr {f : Nat → Int32} (e : lay[a]? = some (1, t, n, l)) (h : H.1 a = some (mI t n f)) : tabS H a = f := by
  rw [tabS_arr e, h]
  rfl
end FIT
