/-! TOLD: all that is told, in the heap; a new one -/
section TOLDI
variable {xs : Nat → Int32} {sl d : Nat} {H H' : mH}
/-- all that is told: towns (numbers, rows), days (how many, rows), plates (numbers, rows), counts, tape, (length, fault, place) -/
abbrev Told : Type := ((Nat → Nat → Int32) × (Nat → Nat → Nat → Int32)) × ((Nat → Int32) × (Nat → Nat → Int32)) × ((Nat → Nat → Int32) × (Nat → Nat → Int32)) × (Nat → Int32) × (Nat → Int32) × (Nat → Int32)
abbrev tTS (τ : Told) : Nat → Nat → Int32 := τ.1.1
abbrev tTA (τ : Told) : Nat → Nat → Nat → Int32 := τ.1.2
abbrev tDN (τ : Told) : Nat → Int32 := τ.2.1.1
abbrev tDF (τ : Told) : Nat → Nat → Int32 := τ.2.1.2
abbrev tPS (τ : Told) : Nat → Nat → Int32 := τ.2.2.1.1
abbrev tPF (τ : Told) : Nat → Nat → Int32 := τ.2.2.1.2
abbrev tC (τ : Told) : Nat → Int32 := τ.2.2.2.1
abbrev tB (τ : Told) : Nat → Int32 := τ.2.2.2.2.1
abbrev tN (τ : Told) : Nat → Int32 := τ.2.2.2.2.2
def toldF (N : Nat → Int32) (t k : Nat) : Value := if k < 5 then .ref (t + 1 + k) else .int (N (k - 5))
def refsTo (H : mH) (a ty b : Nat) : Prop := ∃ f, H.1 a = some (mQ ty 2 f) ∧ ∀ i, i < 2 → f i = some (b + 12 * i)
def isTold (H : mH) (t : Nat) (τ : Told) : Prop := isObj H t 7 8 (toldF (tN τ) t) ∧ refsTo H (t + 1) 4 (t + 6) ∧ refsTo H (t + 2) 5 (t + 14) ∧ refsTo H (t + 3) 6 (t + 16) ∧ H.1 (t + 4) = some (mI 0 3 (tC τ)) ∧ H.1 (t + 5) = some (mI 1 600 (tB τ)) ∧ ∀ i, i < 2 → isTown H (t + 6 + 12 * i) (tTS τ i) (tTA τ i) ∧ isDays H (t + 14 + 12 * i) (tDN τ i) (tDF τ i) ∧ isPlate H (t + 16 + 12 * i) (tPS τ i) (tPF τ i)
theorem refsTo.kept {a ty b : Nat} (h : refsTo H a ty b) (hk : H'.1 a = H.1 a) : refsTo H' a ty b := by
  obtain ⟨f, h1, h2⟩ := h
  exact ⟨f, by rw [hk]; exact h1, h2⟩
theorem isTold.kept {t : Nat} {τ : Told} (h : isTold H t τ) (hk : ∀ k, t ≤ k → k < t + 30 → H'.1 k = H.1 k) : isTold H' t τ := by
  obtain ⟨h0, h1, h2, h3, h4, h5, h6⟩ := h
  refine ⟨h0.kept (hk _ (by omega) (by omega)), h1.kept (hk _ (by omega) (by omega)), h2.kept (hk _ (by omega) (by omega)), h3.kept (hk _ (by omega) (by omega)), by rw [hk _ (by omega) (by omega)]; exact h4, by rw [hk _ (by omega) (by omega)]; exact h5, fun i hi => ?_⟩
  obtain ⟨a, b, c⟩ := h6 i hi
  exact ⟨a.kept (fun k _ _ => hk k (by omega) (by omega)), b.kept (fun k _ _ => hk k (by omega) (by omega)), c.kept (fun k _ _ => hk k (by omega) (by omega))⟩
def τ0 : Told := ((fun _ => S0, fun _ => Z2), (fun _ => 0, fun _ => Z1), (fun _ => P0, fun _ => Z1), Z1, Z1, fun k => if k = 2 then -1 else 0)
theorem new_told {t : Nat} (hp : H.2.1 = t) : ∃ H2, Runs xs sl (d + 1 + 1) 145 0 [some (.ref t), none] [] (mnew H (mO 7 (fun k => mdef (mTy 7 k))) 8) (none, H2) ∧ isTold H2 t τ0 ∧ H2.2 = (t + 30, H.2.2 + 1293) ∧ ∀ j, j < t → H2.1 j = H.1 j := by
  obtain ⟨G, eG⟩ : ∃ X, X = mnew H (mO 7 (fun k => mdef (mTy 7 k))) 8 := ⟨_, rfl⟩
  have g0 : G.1 t = some (mO 7 (fun k => mdef (mTy 7 k))) := by rw [eG, ← hp]; exact mnew_at
  have gp : G.2.1 = t + 1 := by rw [eG, ← hp]; rfl
  have gs : G.2.2 = H.2.2 + 8 := by rw [eG]; rfl
  obtain ⟨H1, hr1, o1, b0, b1, b2, b3, b4, z1, k1⟩ := sg_told (xs := xs) (sl := sl) (d := d + 1 + 1) (H := G) (a := t) (p := t + 1) (l1 := none) g0 gp (by omega)
  obtain ⟨Ha, hra, a1, a2, a3, aT, aD, aP, za, ka⟩ := td_body (xs := xs) (sl := sl) (d := d) (H := H1) (t := t) (p := t + 6) (s := G.2.2 + 609) (i := 0) (by decide) (by omega) z1 o1 rfl rfl rfl b0 b1 b2
  have oa : Ha.1 t = _ := (ka t (by omega) (by omega) (by omega) (by omega)).trans o1
  obtain ⟨Hb, hrb, c1, c2, c3, cT, cD, cP, zb, kb⟩ := td_body (xs := xs) (sl := sl) (d := d) (H := Ha) (t := t) (p := t + 18) (s := G.2.2 + 609 + 338) (i := 1) (by decide) (by omega) za oa rfl rfl rfl a1 a2 a3
  have ob : Hb.1 t = _ := (kb t (by omega) (by omega) (by omega) (by omega)).trans oa
  refine ⟨Hb, ?_, ⟨⟨_, ob, fun k hk => ?_⟩, ⟨_, c1, fun i hi => ?_⟩, ⟨_, c2, fun i hi => ?_⟩, ⟨_, c3, fun i hi => ?_⟩, ?_, ?_, fun i hi => ?_⟩, ?_, fun j hj => ?_⟩
  · rw [← eG]
    have c : (2 : Int32) ≤ nI 2 := by decide
    simp only [r145_0]
    rw [r145_1]
    refine (ob_init t).on ?_
    simp only [Option.toList, List.singleton_append, List.append_nil, List.cons_append, List.nil_append]
    refine hr1 _ ?_
    simp only [r145_49, r145_50, r145_50_1]
    refine hra _ (hrb _ ?_)
    rw [r145_51]
    simp only [r145_52, r145_53, r145_101, if_pos c]
  · have hk2 : k = 0 ∨ k = 1 ∨ k = 2 ∨ k = 3 ∨ k = 4 ∨ k = 5 ∨ k = 6 ∨ k = 7 := by omega
    rcases hk2 with rfl | rfl | rfl | rfl | rfl | rfl | rfl | rfl <;> rfl
  · have : i = 0 ∨ i = 1 := by omega
    rcases this with rfl | rfl <;> rfl
  · have : i = 0 ∨ i = 1 := by omega
    rcases this with rfl | rfl <;> rfl
  · have : i = 0 ∨ i = 1 := by omega
    rcases this with rfl | rfl <;> rfl
  · rw [kb _ (by omega) (by omega) (by omega) (by omega), ka _ (by omega) (by omega) (by omega) (by omega)]; exact b3
  · rw [kb _ (by omega) (by omega) (by omega) (by omega), ka _ (by omega) (by omega) (by omega) (by omega)]; exact b4
  · have : i = 0 ∨ i = 1 := by omega
    rcases this with rfl | rfl
    · exact ⟨aT.kept (fun k _ _ => kb k (by omega) (by omega) (by omega) (by omega)), aD.kept (fun k _ _ => kb k (by omega) (by omega) (by omega) (by omega)), aP.kept (fun k _ _ => kb k (by omega) (by omega) (by omega) (by omega))⟩
    · exact ⟨cT, cD, cP⟩
  · rw [zb, gs]
  · rw [kb j (by omega) (by omega) (by omega) (by omega), ka j (by omega) (by omega) (by omega) (by omega), k1 j (by omega) (by omega), eG, mnew_ne (by omega)]
end TOLDI
