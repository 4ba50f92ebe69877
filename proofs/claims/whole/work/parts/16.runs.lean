/-! RUNS: the small machine's runs, as a relation; rules by which they are walked -/
section RUNS
variable {xs : Nat → Int32} {sl : Nat}
def Runs (xs : Nat → Int32) (sl d M pc : Nat) (L : mL) (st : List Value) (H : mH) (r : Option Value × mH) : Prop := ∃ n, go xs sl n d M pc L st H = some r
theorem go_more : ∀ {n d M pc : Nat} {L : mL} {st : List Value} {H : mH} {r : Option Value × mH}, go xs sl n d M pc L st H = some r → go xs sl (n + 1) d M pc L st H = some r := by
  intro n
  induction n with
  | zero => intro d M pc L st H r h; cases h
  | succ n ih =>
    intro d M pc L st H r h
    rw [go] at h ⊢
    cases hi : mop M pc with
    | none => rw [hi] at h; cases h
    | some i =>
      rw [hi] at h
      dsimp only at h ⊢
      cases hs : mstep xs sl d M i pc L st H with
      | none => rw [hs] at h; cases h
      | some q =>
        rw [hs] at h
        obtain ⟨pc1, L1, st1, H1⟩ | v | ⟨M1, as, r1⟩ := q
        · exact ih h
        · exact h
        · cases d with
          | zero => cases h
          | succ d1 =>
            dsimp only at h ⊢
            cases h1 : go xs sl n d1 M1 0 (ment M1 as) [] H with
            | none => rw [h1] at h; cases h
            | some w =>
              rw [h1] at h
              obtain ⟨v, H1⟩ := w
              rw [ih h1]
              exact ih h
theorem go_le {n n' d M pc : Nat} {L : mL} {st : List Value} {H : mH} {r : Option Value × mH} (hn : n ≤ n') (h : go xs sl n d M pc L st H = some r) : go xs sl n' d M pc L st H = some r := by
  induction hn with
  | refl => exact h
  | step _ ih => exact go_more ih
variable {d M pc pc' : Nat} {L L' : mL} {st st' : List Value} {H H' : mH} {r : Option Value × mH}
theorem run_step {i : Instr} (hi : mop M pc = some i) (hs : mstep xs sl d M i pc L st H = some (.inl (pc', L', st', H'))) : Runs xs sl d M pc L st H r ↔ Runs xs sl d M pc' L' st' H' r := by
  constructor
  · rintro ⟨n, h⟩
    cases n with
    | zero => cases h
    | succ n =>
      rw [go, hi] at h
      dsimp only at h
      rw [hs] at h
      exact ⟨n, h⟩
  · rintro ⟨n, h⟩
    refine ⟨n + 1, ?_⟩
    rw [go, hi]
    dsimp only
    rw [hs]
    exact h
theorem run_none {i : Instr} (hi : mop M pc = some i) (hs : mstep xs sl d M i pc L st H = none) : ¬ Runs xs sl d M pc L st H r := by
  rintro ⟨n, h⟩
  cases n with
  | zero => cases h
  | succ n =>
    rw [go, hi] at h
    dsimp only at h
    rw [hs] at h
    cases h
theorem run_ret {i : Instr} {v : Option Value} (hi : mop M pc = some i) (hs : mstep xs sl d M i pc L st H = some (.inr (.inl v))) : Runs xs sl d M pc L st H r ↔ r = (v, H) := by
  constructor
  · rintro ⟨n, h⟩
    cases n with
    | zero => cases h
    | succ n =>
      rw [go, hi] at h
      dsimp only at h
      rw [hs] at h
      cases h
      rfl
  · rintro rfl
    refine ⟨1, ?_⟩
    rw [go, hi]
    dsimp only
    rw [hs]
theorem run_call {i : Instr} {M' : Nat} {as rest : List Value} (hi : mop M pc = some i) (hs : mstep xs sl (d + 1) M i pc L st H = some (.inr (.inr (M', as, rest)))) : Runs xs sl (d + 1) M pc L st H r ↔ ∃ v H1, Runs xs sl d M' 0 (ment M' as) [] H (v, H1) ∧ Runs xs sl (d + 1) M (pc + 3) L (v.toList ++ rest) H1 r := by
  constructor
  · rintro ⟨n, h⟩
    cases n with
    | zero => cases h
    | succ n =>
      rw [go, hi] at h
      dsimp only at h
      rw [hs] at h
      dsimp only at h
      split at h
      · cases h
      · rename_i v H1 h1
        exact ⟨v, H1, ⟨n, h1⟩, ⟨n, h⟩⟩
  · rintro ⟨v, H1, ⟨n1, h1⟩, ⟨n2, h2⟩⟩
    refine ⟨max n1 n2 + 1, ?_⟩
    rw [go, hi]
    dsimp only
    rw [hs]
    dsimp only
    rw [go_le (Nat.le_max_left n1 n2) h1]
    exact go_le (Nat.le_max_right n1 n2) h2
/-- reading and writing the heap, as partial functions -/
def hO (H : mH) (a ci k : Nat) : Option Value := match H.1 a with
  | some (.inl q) => if q.1 = ci then some (q.2 k) else none
  | _ => none
def hOw (H : mH) (a ci k : Nat) (v : Value) : Option mH := match H.1 a with
  | some (.inl q) => if q.1 = ci then some (mset H a (mO ci (va_up q.2 k v))) else none
  | _ => none
def hA (H : mH) (a t : Nat) (i : Int32) : Option Int32 := match H.1 a with
  | some (.inr (t', n, .inl f)) => if t' = t then (if i < 0 ∨ n ≤ i.toNatClampNeg then none else some (f i.toNatClampNeg)) else none
  | _ => none
def hAw (H : mH) (a t : Nat) (i x : Int32) : Option mH := match H.1 a with
  | some (.inr (t', n, .inl f)) => if t' = t then (if i < 0 ∨ n ≤ i.toNatClampNeg then none else some (mset H a (mI t n (va_up f i.toNatClampNeg x)))) else none
  | _ => none
def hB (H : mH) (a : Nat) (i : Int32) : Option Int32 := match H.1 a with
  | some (.inr (t', n, .inl f)) => if t' = 1 ∨ t' = 2 then (if i < 0 ∨ n ≤ i.toNatClampNeg then none else some (f i.toNatClampNeg)) else none
  | _ => none
def hJ (H : mH) (a : Nat) (i : Int32) : Option Int64 := match H.1 a with
  | some (.inr (t', n, .inr (.inl f))) => if t' = 3 then (if i < 0 ∨ n ≤ i.toNatClampNeg then none else some (f i.toNatClampNeg)) else none
  | _ => none
def hJw (H : mH) (a : Nat) (i : Int32) (x : Int64) : Option mH := match H.1 a with
  | some (.inr (t', n, .inr (.inl f))) => if t' = 3 then (if i < 0 ∨ n ≤ i.toNatClampNeg then none else some (mset H a (mJ 3 n (va_up f i.toNatClampNeg x)))) else none
  | _ => none
def hQ (H : mH) (a : Nat) (i : Int32) : Option Value := match H.1 a with
  | some (.inr (t', n, .inr (.inr f))) => if 4 ≤ t' ∧ t' < 8 then (if i < 0 ∨ n ≤ i.toNatClampNeg then none else some (va_rf (f i.toNatClampNeg))) else none
  | _ => none
def hC (H : mH) (a : Nat) : Option Nat := match H.1 a with
  | some (.inl q) => some q.1
  | _ => none
variable {a idx ci k : Nat}
theorem run_getf (hi : mop M pc = some (.getfield idx)) (hf : mFld (mown M) idx = some (ci, k)) (hp : pc + 3 = pc') : Runs xs sl d M pc L (.ref a :: st) H r ↔ ∃ v, hO H a ci k = some v ∧ Runs xs sl d M pc' L (v :: st) H r := by
  subst hp
  have e : mstep xs sl d M (.getfield idx) pc L (.ref a :: st) H = match hO H a ci k with
    | some v => nx (pc + 3) L (v :: st) H
    | none => none := by
    show mgetf M pc idx L (.ref a :: st) H = _
    unfold mgetf hO
    dsimp only
    cases H.1 a with
    | none => rfl
    | some c =>
      cases c with
      | inr q => rfl
      | inl q =>
        dsimp only
        rw [hf]
        dsimp only
        by_cases h : q.1 = ci
        · rw [if_pos h, if_pos h]
        · rw [if_neg h, if_neg h]
  cases h : hO H a ci k with
  | none =>
    rw [h] at e
    refine ⟨fun q => absurd q (run_none hi e), ?_⟩
    rintro ⟨v, hv, -⟩
    cases hv
  | some v =>
    rw [h] at e
    rw [run_step hi e]
    constructor
    · exact fun q => ⟨v, rfl, q⟩
    · rintro ⟨w, hw, q⟩
      cases hw
      exact q
theorem run_opt {α : Type} {i : Instr} {o : Option α} {f : α → Nat × mL × List Value × mH} (hi : mop M pc = some i) (e : mstep xs sl d M i pc L st H = o.map (fun v => .inl (f v))) : Runs xs sl d M pc L st H r ↔ ∃ v, o = some v ∧ Runs xs sl d M (f v).1 (f v).2.1 (f v).2.2.1 (f v).2.2.2 r := by
  cases h : o with
  | none =>
    rw [h] at e
    refine ⟨fun q => absurd q (run_none hi e), ?_⟩
    rintro ⟨v, hv, -⟩
    cases hv
  | some v =>
    rw [h] at e
    rw [run_step hi e]
    constructor
    · exact fun q => ⟨v, rfl, q⟩
    · rintro ⟨w, hw, q⟩
      cases hw
      exact q
theorem run_putf {v : Value} (hi : mop M pc = some (.putfield idx)) (hf : mFld (mown M) idx = some (ci, k)) (ht : mfit (mTy ci k) v = true) (ho : mputok M ci k = true) (hp : pc + 3 = pc') : Runs xs sl d M pc L (v :: .ref a :: st) H r ↔ ∃ H1, hOw H a ci k v = some H1 ∧ Runs xs sl d M pc' L st H1 r := by
  subst hp
  refine run_opt (f := fun H1 => (pc + 3, L, st, H1)) hi ?_
  show mputf M pc idx L (v :: .ref a :: st) H = _
  unfold mputf hOw
  dsimp only
  cases H.1 a with
  | none => rfl
  | some c =>
    cases c with
    | inr q => rfl
    | inl q =>
      dsimp only
      rw [hf]
      dsimp only
      by_cases h : q.1 = ci
      · rw [if_pos ⟨h, ht, ho⟩, if_pos h]
        rfl
      · rw [if_neg (fun z => h z.1), if_neg h]
        rfl
variable {i x : Int32}
theorem run_iald (hi : mop M pc = some .iaload) (hp : pc + 1 = pc') : Runs xs sl d M pc L (.int i :: .ref a :: st) H r ↔ ∃ v, hA H a 0 i = some v ∧ Runs xs sl d M pc' L (.int v :: st) H r := by
  subst hp
  refine run_opt (f := fun v => (pc + 1, L, .int v :: st, H)) hi ?_
  show mald pc 0 L (.int i :: .ref a :: st) H = _
  unfold mald hA
  dsimp only
  cases H.1 a with
  | none => rfl
  | some c =>
    obtain q | ⟨t, n, f | f | f⟩ := c
    · rfl
    · dsimp only
      split
      · split
        · rfl
        · rfl
      · rfl
    · rfl
    · rfl
theorem run_bald (hi : mop M pc = some .baload) (hp : pc + 1 = pc') : Runs xs sl d M pc L (.int i :: .ref a :: st) H r ↔ ∃ v, hB H a i = some v ∧ Runs xs sl d M pc' L (.int v :: st) H r := by
  subst hp
  refine run_opt (f := fun v => (pc + 1, L, .int v :: st, H)) hi ?_
  show mbald pc L (.int i :: .ref a :: st) H = _
  unfold mbald hB
  dsimp only
  cases H.1 a with
  | none => rfl
  | some c =>
    obtain q | ⟨t, n, f | f | f⟩ := c
    · rfl
    · dsimp only
      split
      · split
        · rfl
        · rfl
      · rfl
    · rfl
    · rfl
theorem run_lald (hi : mop M pc = some .laload) (hp : pc + 1 = pc') : Runs xs sl d M pc L (.int i :: .ref a :: st) H r ↔ ∃ v, hJ H a i = some v ∧ Runs xs sl d M pc' L (.long v :: st) H r := by
  subst hp
  refine run_opt (f := fun v => (pc + 1, L, .long v :: st, H)) hi ?_
  show mlald pc L (.int i :: .ref a :: st) H = _
  unfold mlald hJ
  dsimp only
  cases H.1 a with
  | none => rfl
  | some c =>
    obtain q | ⟨t, n, f | f | f⟩ := c
    · rfl
    · rfl
    · dsimp only
      split
      · split
        · rfl
        · rfl
      · rfl
    · rfl
theorem run_aald (hi : mop M pc = some .aaload) (hp : pc + 1 = pc') : Runs xs sl d M pc L (.int i :: .ref a :: st) H r ↔ ∃ v, hQ H a i = some v ∧ Runs xs sl d M pc' L (v :: st) H r := by
  subst hp
  refine run_opt (f := fun v => (pc + 1, L, v :: st, H)) hi ?_
  show maald pc L (.int i :: .ref a :: st) H = _
  unfold maald hQ
  dsimp only
  cases H.1 a with
  | none => rfl
  | some c =>
    obtain q | ⟨t, n, f | f | f⟩ := c
    · rfl
    · rfl
    · rfl
    · dsimp only
      split
      · split
        · rfl
        · rfl
      · rfl
theorem run_iast (hi : mop M pc = some .iastore) (hp : pc + 1 = pc') : Runs xs sl d M pc L (.int x :: .int i :: .ref a :: st) H r ↔ ∃ H1, hAw H a 0 i x = some H1 ∧ Runs xs sl d M pc' L st H1 r := by
  subst hp
  refine run_opt (f := fun H1 => (pc + 1, L, st, H1)) hi ?_
  show miast pc L (.int x :: .int i :: .ref a :: st) H = _
  unfold miast hAw
  dsimp only
  cases H.1 a with
  | none => rfl
  | some c =>
    obtain q | ⟨t, n, f | f | f⟩ := c
    · rfl
    · dsimp only
      split
      · split
        · rfl
        · rfl
      · rfl
    · rfl
    · rfl
theorem run_last {z : Int64} (hi : mop M pc = some .lastore) (hp : pc + 1 = pc') : Runs xs sl d M pc L (.long z :: .int i :: .ref a :: st) H r ↔ ∃ H1, hJw H a i z = some H1 ∧ Runs xs sl d M pc' L st H1 r := by
  subst hp
  refine run_opt (f := fun H1 => (pc + 1, L, st, H1)) hi ?_
  show mlast pc L (.long z :: .int i :: .ref a :: st) H = _
  unfold mlast hJw
  dsimp only
  cases H.1 a with
  | none => rfl
  | some c =>
    obtain q | ⟨t, n, f | f | f⟩ := c
    · rfl
    · rfl
    · dsimp only
      split
      · split
        · rfl
        · rfl
      · rfl
    · rfl
/-- branches -/
theorem run_if {j : Instr} {P : Prop} [Decidable P] {t : Nat} (hi : mop M pc = some j) (hs : mstep xs sl d M j pc L st H = nx (if decide P then t else pc') L st' H) : Runs xs sl d M pc L st H r ↔ if P then Runs xs sl d M t L st' H r else Runs xs sl d M pc' L st' H r := by
  rw [run_step hi hs]
  by_cases h : P
  · rw [if_pos h, decide_eq_true h, if_pos rfl]
  · rw [if_neg h, decide_eq_false h, if_neg (by decide)]
def hBw (H : mH) (a : Nat) (i x : Int32) : Option mH := match H.1 a with
  | some (.inr (t', n, .inl f)) => if t' = 1 then (if i < 0 ∨ n ≤ i.toNatClampNeg then none else some (mset H a (mI 1 n (va_up f i.toNatClampNeg (vp_nar .byte x)))))
      else if t' = 2 then (if i < 0 ∨ n ≤ i.toNatClampNeg then none else some (mset H a (mI 2 n (va_up f i.toNatClampNeg (vp_nar .boolean x))))) else none
  | _ => none
def hQw (H : mH) (a : Nat) (i : Int32) (v : Nat) : Option mH := match H.1 a with
  | some (.inr (t', n, .inr (.inr f))) => match H.1 v with
    | some (.inl q) => if mEl t' = some q.1 then (if i < 0 ∨ n ≤ i.toNatClampNeg then none else some (mset H a (mQ t' n (va_up f i.toNatClampNeg (some v))))) else none
    | _ => none
  | _ => none
def hLen (H : mH) (a : Nat) : Option Int32 := match H.1 a with
  | some (.inr q) => if q.1 < 8 then some (Int32.ofNat q.2.1) else none
  | _ => none
def hCp (H : mH) (a b : Nat) (sp dp n : Int32) : Option mH := match H.1 a, H.1 b with
  | some (.inr (t, n0, .inl f)), some (.inr (t', n1, .inl g)) =>
    if ¬ (t < 2 ∧ t' = t) ∨ sp < 0 ∨ dp < 0 ∨ n < 0 ∨ n0 < sp.toNatClampNeg + n.toNatClampNeg ∨ n1 < dp.toNatClampNeg + n.toNatClampNeg then none
    else if t = 0 ∨ (∀ i, i < n.toNatClampNeg → fits .byte (.int (f (sp.toNatClampNeg + i))) = true) then some (mset H b (mI t n1 (va_cpy f g sp.toNatClampNeg dp.toNatClampNeg n.toNatClampNeg))) else none
  | _, _ => none
theorem run_bast (hi : mop M pc = some .bastore) (hp : pc + 1 = pc') : Runs xs sl d M pc L (.int x :: .int i :: .ref a :: st) H r ↔ ∃ H1, hBw H a i x = some H1 ∧ Runs xs sl d M pc' L st H1 r := by
  subst hp
  refine run_opt (f := fun H1 => (pc + 1, L, st, H1)) hi ?_
  show mbast pc L (.int x :: .int i :: .ref a :: st) H = _
  unfold mbast hBw
  dsimp only
  cases H.1 a with
  | none => rfl
  | some c =>
    obtain q | ⟨t, n, f | f | f⟩ := c
    · rfl
    · dsimp only
      split
      · split
        · rfl
        · rfl
      · split
        · split
          · rfl
          · rfl
        · rfl
    · rfl
    · rfl
theorem run_aast {v : Nat} (hi : mop M pc = some .aastore) (hp : pc + 1 = pc') : Runs xs sl d M pc L (.ref v :: .int i :: .ref a :: st) H r ↔ ∃ H1, hQw H a i v = some H1 ∧ Runs xs sl d M pc' L st H1 r := by
  subst hp
  refine run_opt (f := fun H1 => (pc + 1, L, st, H1)) hi ?_
  show maast pc L (.ref v :: .int i :: .ref a :: st) H = _
  unfold maast hQw
  dsimp only
  cases H.1 a with
  | none => rfl
  | some c =>
    obtain q | ⟨t, n, f | f | f⟩ := c
    · rfl
    · rfl
    · rfl
    · dsimp only
      cases H.1 v with
      | none => rfl
      | some c2 =>
        cases c2 with
        | inr q => rfl
        | inl q =>
          dsimp only
          split
          · split
            · rfl
            · rfl
          · rfl
theorem run_alen (hi : mop M pc = some .arraylength) (hp : pc + 1 = pc') : Runs xs sl d M pc L (.ref a :: st) H r ↔ ∃ v, hLen H a = some v ∧ Runs xs sl d M pc' L (.int v :: st) H r := by
  subst hp
  refine run_opt (f := fun v => (pc + 1, L, .int v :: st, H)) hi ?_
  show malen sl M pc L (.ref a :: st) H = _
  unfold malen hLen
  dsimp only
  cases H.1 a with
  | none => rfl
  | some c =>
    cases c with
    | inl q => rfl
    | inr q =>
      dsimp only
      split
      · rfl
      · rfl
theorem run_copy {b M0 n0 : Nat} {n dp sp : Int32} (hi : mop M pc = some (.invokestatic idx)) (hv : mInv (mown M) idx = some (3, M0, n0)) (hcat : mcat st ≤ 8) (hp : pc + 3 = pc') : Runs xs sl (d + 1) M pc L (.int n :: .int dp :: .ref b :: .int sp :: .ref a :: st) H r ↔ ∃ H1, hCp H a b sp dp n = some H1 ∧ Runs xs sl (d + 1) M pc' L st H1 r := by
  subst hp
  refine run_opt (f := fun H1 => (pc + 3, L, st, H1)) hi ?_
  show minv 1 (d + 1) M pc idx L (.int n :: .int dp :: .ref b :: .int sp :: .ref a :: st) H = _
  unfold minv
  rw [hv]
  dsimp only
  rw [if_neg (by omega)]
  show mcopy (d + 1) pc L (.int n :: .int dp :: .ref b :: .int sp :: .ref a :: st) H = _
  unfold mcopy hCp
  dsimp only
  cases H.1 a with
  | none => rfl
  | some c =>
    cases H.1 b with
    | none =>
      obtain q | ⟨t, n, f | f | f⟩ := c <;> rfl
    | some c2 =>
      obtain q | ⟨t, n1, f | f | f⟩ := c
      · rfl
      · obtain q | ⟨t2, n2, g | g | g⟩ := c2
        · rfl
        · dsimp only
          by_cases hcd : ¬ (t < 2 ∧ t2 = t) ∨ sp < 0 ∨ dp < 0 ∨ n < 0 ∨ n1 < sp.toNatClampNeg + n.toNatClampNeg ∨ n2 < dp.toNatClampNeg + n.toNatClampNeg
          · rw [if_pos hcd, if_pos (hcd.elim (fun q => Or.inr (Or.inl q)) (fun q => Or.inr (Or.inr (Or.inr q))))]
            rfl
          · rw [if_neg hcd, if_neg (by
              rintro (q | q | q | q)
              · omega
              · exact hcd (Or.inl q)
              · omega
              · exact hcd (Or.inr q))]
            split
            · rfl
            · rfl
        · rfl
        · rfl
      · rfl
      · rfl
theorem run_math {k0 M0 n0 : Nat} {v : Int32} {top : List Value} (hi : mop M pc = some (.invokestatic idx)) (hv : mInv (mown M) idx = some (k0, M0, n0)) (hk : 4 ≤ k0) (hm : mmath k0 (d + 1) pc L (top ++ st) H = nx (pc + 3) L (.int v :: st) H) (hp : pc + 3 = pc') : Runs xs sl (d + 1) M pc L (top ++ st) H r ↔ Runs xs sl (d + 1) M pc' L (.int v :: st) H r := by
  subst hp
  refine run_step hi ?_
  show minv 1 (d + 1) M pc idx L (top ++ st) H = _
  unfold minv
  rw [hv]
  dsimp only
  rw [if_neg (by omega)]
  split
  · omega
  · omega
  · omega
  · omega
  · exact hm
theorem run_callV {M' n : Nat} {as rest : List Value} {Lc : mL} (hi : mop M pc = some (.invokevirtual idx)) (hv : mInv (mown M) idx = some (0, M', n)) (hcl : mcls M' = some ci) (hpop : mpop (n + 1) st = some (.ref a :: as, rest)) (hcat : mcat rest ≤ 8) (hlay : (mlay (.ref a :: as)).length ≤ mmax M') (hp : pc + 3 = pc') (he : ment M' (.ref a :: as) = Lc) (hc : hC H a = some ci) : Runs xs sl (d + 1) M pc L st H r ↔ ∃ v H1, Runs xs sl d M' 0 Lc [] H (v, H1) ∧ Runs xs sl (d + 1) M pc' L (v.toList ++ rest) H1 r := by
  subst hp
  subst he
  refine run_call hi ?_
  show minv 0 (d + 1) M pc idx L st H = _
  unfold minv
  rw [hv]
  dsimp only
  rw [if_neg (by omega), hpop]
  dsimp only
  unfold hC at hc
  split at hc
  · rename_i q hq
    cases hc
    rw [hq]
    dsimp only
    rw [if_pos ⟨hcl, hcat, hlay⟩]
    rfl
  · cases hc
theorem run_callS {M' n : Nat} {as rest : List Value} {Lc : mL} (hi : mop M pc = some (.invokestatic idx)) (hv : mInv (mown M) idx = some (1, M', n)) (hpop : mpop n st = some (as, rest)) (hcat : mcat rest ≤ 8) (hlay : (mlay as).length ≤ mmax M') (hp : pc + 3 = pc') (he : ment M' as = Lc) : Runs xs sl (d + 1) M pc L st H r ↔ ∃ v H1, Runs xs sl d M' 0 Lc [] H (v, H1) ∧ Runs xs sl (d + 1) M pc' L (v.toList ++ rest) H1 r := by
  subst hp
  subst he
  refine run_call hi ?_
  show minv 1 (d + 1) M pc idx L st H = _
  unfold minv
  rw [hv]
  dsimp only
  rw [if_neg (by omega), hpop]
  dsimp only
  rw [if_pos ⟨hcat, hlay⟩]
  rfl
theorem run_callI {M' n : Nat} {as rest : List Value} {Lc : mL} (hi : mop M pc = some (.invokespecial idx)) (hv : mInv (mown M) idx = some (2, M', n)) (hpop : mpop (n + 1) st = some (.ref a :: as, rest)) (hcat : mcat rest ≤ 8) (hlay : (mlay (.ref a :: as)).length ≤ mmax M') (hp : pc + 3 = pc') (he : ment M' (.ref a :: as) = Lc) : Runs xs sl (d + 1) M pc L st H r ↔ ∃ v H1, Runs xs sl d M' 0 Lc [] H (v, H1) ∧ Runs xs sl (d + 1) M pc' L (v.toList ++ rest) H1 r := by
  subst hp
  subst he
  refine run_call hi ?_
  show minv 2 (d + 1) M pc idx L st H = _
  unfold minv
  rw [hv]
  dsimp only
  rw [if_neg (by omega), hpop]
  dsimp only
  rw [if_pos ⟨hcat, hlay⟩]
  rfl
end RUNS
