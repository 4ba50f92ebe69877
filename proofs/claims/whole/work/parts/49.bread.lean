/-! BREADTALK: the whole object in the heap; a new one -/
section BREAD
variable {xs : Nat → Int32} {sl d : Nat} {H H' : mH}
theorem put_ref {a ci k v : Nat} {F : Nat → Value} (o : H.1 a = some (mO ci F)) : ∃ H2, hOw H a ci k (.ref v) = some H2 ∧ H2.1 a = some (mO ci (va_up F k (.ref v))) ∧ (∀ j, j ≠ a → H2.1 j = H.1 j) ∧ H2.2 = H.2 := ⟨_, hOw_of o, mset_at, fun _ hj => mset_ne hj, rfl⟩
def breadF (s : Int32) (a k : Nat) : Value := match k with
  | 0 => .ref (a + 1)
  | 1 => .ref (a + 31)
  | 2 => .ref (a + 32)
  | 3 => .ref (a + 47)
  | 4 => .ref (a + 65)
  | 5 => .ref (a + 70)
  | 6 => .ref (a + 73)
  | _ => .int s
theorem isReader.kept {a x : Nat} {I : Nat → Int32} (h : isReader H a x I) (hk : ∀ k, a ≤ k → k < a + 15 → H'.1 k = H.1 k) : isReader H' a x I := by
  obtain ⟨h0, ⟨S, A, h1⟩, ⟨n, f, h2⟩, ⟨S', f', h3⟩, h4⟩ := h
  exact ⟨h0.kept (hk _ (by omega) (by omega)), ⟨S, A, h1.kept (fun k _ _ => hk k (by omega) (by omega))⟩, ⟨n, f, h2.kept (fun k _ _ => hk k (by omega) (by omega))⟩, ⟨S', f', h3.kept (fun k _ _ => hk k (by omega) (by omega))⟩, h4.kept (hk _ (by omega) (by omega))⟩
theorem isScene.kept {a x : Nat} {I : Nat → Int32} (h : isScene H a x I) (hk : ∀ k, a ≤ k → k < a + 18 → H'.1 k = H.1 k) : isScene H' a x I := by
  obtain ⟨h0, b0, b1, b2, b3, b4, b5, b6, b7, b8, S, A, h9⟩ := h
  exact ⟨h0.kept (hk _ (by omega) (by omega)), b0.kept (hk _ (by omega) (by omega)), b1.kept (hk _ (by omega) (by omega)), b2.kept (hk _ (by omega) (by omega)), b3.kept (hk _ (by omega) (by omega)), b4.kept (hk _ (by omega) (by omega)), b5.kept (hk _ (by omega) (by omega)), b6.kept (hk _ (by omega) (by omega)), b7.kept (hk _ (by omega) (by omega)), b8.kept (hk _ (by omega) (by omega)), S, A, h9.kept (fun k _ _ => hk k (by omega) (by omega))⟩
theorem isMeals.kept {a x : Nat} {I : Nat → Int32} (h : isMeals H a x I) (hk : ∀ k, a ≤ k → k < a + 5 → H'.1 k = H.1 k) : isMeals H' a x I := by
  obtain ⟨h0, b0, b1, b2, b3⟩ := h
  exact ⟨h0.kept (hk _ (by omega) (by omega)), b0.kept (hk _ (by omega) (by omega)), b1.kept (hk _ (by omega) (by omega)), b2.kept (hk _ (by omega) (by omega)), b3.kept (hk _ (by omega) (by omega))⟩
theorem isMarket.kept {a : Nat} (h : isMarket H a) (hk : ∀ k, a ≤ k → k < a + 3 → H'.1 k = H.1 k) : isMarket H' a := by
  obtain ⟨h0, b0, b1⟩ := h
  exact ⟨h0.kept (hk _ (by omega) (by omega)), b0.kept (hk _ (by omega) (by omega)), b1.kept (hk _ (by omega) (by omega))⟩
theorem isGuess.kept {a x y z : Nat} (h : isGuess H a x y z) (hk : ∀ k, a ≤ k → k < a + 8 → H'.1 k = H.1 k) : isGuess H' a x y z := by
  obtain ⟨h0, b0, b1, b2, b3, b4, S, f, h9⟩ := h
  exact ⟨h0.kept (hk _ (by omega) (by omega)), b0.kept (hk _ (by omega) (by omega)), b1.kept (hk _ (by omega) (by omega)), b2.kept (hk _ (by omega) (by omega)), b3.kept (hk _ (by omega) (by omega)), b4.kept (hk _ (by omega) (by omega)), S, f, h9.kept (fun k _ _ => hk k (by omega) (by omega))⟩
/-- the whole object: what is told, its images (by their addresses), tools of the right shapes -/
def isBread (H : mH) (a : Nat) (τ : Told) (im : Nat → Option Nat) : Prop := (∃ s, isObj H a 9 8 (breadF s a)) ∧ isTold H (a + 1) τ ∧ (∃ f, H.1 (a + 31) = some (mQ 7 3 f) ∧ ∀ i, i < 3 → f i = im i) ∧ (∃ I, isReader H (a + 32) (a + 46) I) ∧ (∃ I, isScene H (a + 47) (a + 48) I) ∧ (∃ I, isMeals H (a + 65) (a + 47) I) ∧ isMarket H (a + 70) ∧ isGuess H (a + 73) (a + 74) (a + 78) (a + 79)
theorem new_bread {a : Nat} (hp : H.2.1 = a) : ∃ H2, Runs xs sl (d + 1 + 1 + 1) 1 0 [some (.ref a)] [] (mnew H (mO 9 (fun k => mdef (mTy 9 k))) 8) (none, H2) ∧ isBread H2 a τ0 (fun _ => none) ∧ H2.2 = (a + 81, H.2.2 + 6197) ∧ ∀ j, j < a → H2.1 j = H.1 j := by
  obtain ⟨G, eG⟩ : ∃ X, X = mnew H (mO 9 (fun k => mdef (mTy 9 k))) 8 := ⟨_, rfl⟩
  have g0 : G.1 a = some (mO 9 (fun k => mdef (mTy 9 k))) := by rw [eG, ← hp]; exact mnew_at
  have gp : G.2.1 = a + 1 := by rw [eG, ← hp]; rfl
  have gs : G.2.2 = H.2.2 + 8 := by rw [eG]; rfl
  -- told
  obtain ⟨H1, r1, i1, z1, k1⟩ := new_told (xs := xs) (sl := sl) (d := d) (H := G) gp
  obtain ⟨H2, w2, o2, k2, z2⟩ := put_ref (k := 0) (v := a + 1) ((k1 a (by omega)).trans g0)
  have y2 : H2.2 = (a + 31, H.2.2 + 1301) := by rw [z2, z1, gs]
  have p2 : H2.2.1 = a + 31 := by rw [y2]
  -- images
  have n2 : a ≠ H2.2.1 := by omega
  have w3 := madeIn_put (k := 1) (c := mQ 7 3 (fun _ => none)) (n := 3) o2 n2
  obtain ⟨H3, e3⟩ : ∃ X, X = madeIn H2 a 9 1 (va_up (fun k => mdef (mTy 9 k)) 0 (.ref (a + 1))) (mQ 7 3 (fun _ => none)) 3 := ⟨_, rfl⟩
  rw [← e3] at w3
  have o3 : H3.1 a = some (mO 9 (va_up (va_up (fun k => mdef (mTy 9 k)) 0 (.ref (a + 1))) 1 (.ref (a + 31)))) := by rw [e3, madeIn_obj, p2]
  have b3 : H3.1 (a + 31) = some (mQ 7 3 (fun _ => none)) := by rw [e3, ← p2, madeIn_new n2]
  have k3 : ∀ j, j ≠ a → j ≠ a + 31 → H3.1 j = H2.1 j := fun j h1 h2 => by rw [e3]; exact madeIn_ne h1 (by rw [p2]; exact h2)
  have y3 : H3.2 = (a + 32, H.2.2 + 1304) := by rw [e3, madeIn_n, y2]
  have p3 : H3.2.1 = a + 32 := by rw [y3]
  -- reader
  obtain ⟨H4, r4, i4, z4, k4⟩ := new_reader (xs := xs) (sl := sl) (d := d) (H := H3) p3
  obtain ⟨H5, w5, o5, k5, z5⟩ := put_ref (k := 2) (v := a + 32) ((k4 a (by omega)).trans o3)
  have y5 : H5.2 = (a + 47, H.2.2 + 1661) := by rw [z5, z4, y3]
  have p5 : H5.2.1 = a + 47 := by rw [y5]
  -- scene
  obtain ⟨H6, r6, i6, z6, k6⟩ := new_scene (xs := xs) (sl := sl) (d := d) (H := H5) p5
  obtain ⟨H7, w7, o7, k7, z7⟩ := put_ref (k := 3) (v := a + 47) ((k6 a (by omega)).trans o5)
  have y7 : H7.2 = (a + 65, H.2.2 + 2069) := by rw [z7, z6, y5]
  have p7 : H7.2.1 = a + 65 := by rw [y7]
  -- meals
  obtain ⟨H8, r8, i8, z8, k8⟩ := new_meals (xs := xs) (sl := sl) (d := d + 1) (H := H7) (x := a + 47) p7
  obtain ⟨H9, w9, o9, k9, z9⟩ := put_ref (k := 4) (v := a + 65) ((k8 a (by omega)).trans o7)
  have y9 : H9.2 = (a + 70, H.2.2 + 5976) := by rw [z9, z8, y7]
  have p9 : H9.2.1 = a + 70 := by rw [y9]
  -- market
  obtain ⟨Ha, ra, ia, za, ka⟩ := new_market (xs := xs) (sl := sl) (d := d + 1) (H := H9) p9
  obtain ⟨Hb, wb, ob, kb, zb⟩ := put_ref (k := 5) (v := a + 70) ((ka a (by omega)).trans o9)
  have yb : Hb.2 = (a + 73, H.2.2 + 6034) := by rw [zb, za, y9]
  have pb : Hb.2.1 = a + 73 := by rw [yb]
  -- guess
  obtain ⟨Hc, rc, ic, zc, kc⟩ := new_guess (xs := xs) (sl := sl) (d := d) (H := Hb) pb
  obtain ⟨Hd, wd, od, kd, zd⟩ := put_ref (k := 6) (v := a + 73) ((kc a (by omega)).trans ob)
  have yd : Hd.2 = (a + 81, H.2.2 + 6197) := by rw [zd, zc, yb]
  have fb : ∀ j, j ≠ a → j < a + 73 → Hd.1 j = Hb.1 j := fun j h1 h2 => by rw [kd j h1, kc j h2]
  have f9 : ∀ j, j ≠ a → j < a + 70 → Hd.1 j = H9.1 j := fun j h1 h2 => by rw [fb j h1 (by omega), kb j h1, ka j h2]
  have f7 : ∀ j, j ≠ a → j < a + 65 → Hd.1 j = H7.1 j := fun j h1 h2 => by rw [f9 j h1 (by omega), k9 j h1, k8 j h2]
  have f5 : ∀ j, j ≠ a → j < a + 47 → Hd.1 j = H5.1 j := fun j h1 h2 => by rw [f7 j h1 (by omega), k7 j h1, k6 j h2]
  have f3 : ∀ j, j ≠ a → j < a + 32 → Hd.1 j = H3.1 j := fun j h1 h2 => by rw [f5 j h1 (by omega), k5 j h1, k4 j h2]
  have f1 : ∀ j, j ≠ a → j < a + 31 → Hd.1 j = H1.1 j := fun j h1 h2 => by rw [f3 j h1 (by omega), k3 j h1 (by omega), k2 j h1]
  refine ⟨Hd, ?_, ⟨⟨0, _, od, fun k hk => ?_⟩, i1.kept (fun k _ _ => f1 k (by omega) (by omega)), ⟨_, (f3 _ (by omega) (by omega)).trans b3, fun _ _ => rfl⟩, ⟨_, i4.kept (fun k _ _ => by rw [f5 k (by omega) (by omega), k5 k (by omega)])⟩, ⟨_, i6.kept (fun k _ _ => by rw [f7 k (by omega) (by omega), k7 k (by omega)])⟩, ⟨_, i8.kept (fun k _ _ => by rw [f9 k (by omega) (by omega), k9 k (by omega)])⟩, ia.kept (fun k _ _ => by rw [fb k (by omega) (by omega), kb k (by omega)]), ic.kept (fun k _ _ => kd k (by omega))⟩, yd, fun j hj => ?_⟩
  · have hs : ¬ ((3 : Int32) < 0 ∨ 100000 < ((3 : Int32)).toNatClampNeg) := by decide
    have nn : ((3 : Int32)).toNatClampNeg = 3 := by decide
    have gm : hO (mnew H7 (mO 3 (fun k => mdef (mTy 3 k))) 13) a 9 3 = some (.ref (a + 47)) := by
      rw [hO_of (F := va_up (va_up (va_up (va_up (fun k => mdef (mTy 9 k)) 0 (.ref (a + 1))) 1 (.ref (a + 31))) 2 (.ref (a + 32))) 3 (.ref (a + 47))) (by rw [mnew_ne (by omega)]; exact o7)]
      rfl
    rw [← eG]
    simp only [r1_0]
    rw [r1_1]
    refine (ob_init a).on ?_
    simp only [Option.toList, List.singleton_append, List.append_nil, List.cons_append, List.nil_append, r1_4, r1_5, r1_8]
    rw [gp, r1_9]
    refine r1.on ?_
    simp only [Option.toList, List.singleton_append, List.append_nil, List.cons_append, List.nil_append, r1_12, r1_15, r1_16, r1_17 hs, nn, r1_20, r1_23, r1_24, r1_27, w2, w3, Option.some.injEq, exists_eq_left']
    rw [p3, r1_28]
    refine r4.on ?_
    simp only [Option.toList, List.singleton_append, List.append_nil, List.cons_append, List.nil_append, r1_31, r1_34, r1_35, r1_38, w5, Option.some.injEq, exists_eq_left']
    rw [p5, r1_39]
    refine r6.on ?_
    simp only [Option.toList, List.singleton_append, List.append_nil, List.cons_append, List.nil_append, r1_42, r1_45, r1_46, r1_49, r1_50, r1_51, w7, Option.some.injEq, exists_eq_left', gm]
    rw [p7, r1_54]
    refine r8.on ?_
    simp only [Option.toList, List.singleton_append, List.append_nil, List.cons_append, List.nil_append, r1_57, r1_60, r1_61, r1_64, w9, Option.some.injEq, exists_eq_left']
    rw [p9, r1_65]
    refine ra.on ?_
    simp only [Option.toList, List.singleton_append, List.append_nil, List.cons_append, List.nil_append, r1_68, r1_71, r1_72, r1_75, wb, Option.some.injEq, exists_eq_left']
    rw [pb, r1_76]
    refine rc.on ?_
    simp only [Option.toList, List.singleton_append, List.append_nil, List.cons_append, List.nil_append, r1_79, r1_82, wd, Option.some.injEq, exists_eq_left']
  · have hk2 : k = 0 ∨ k = 1 ∨ k = 2 ∨ k = 3 ∨ k = 4 ∨ k = 5 ∨ k = 6 ∨ k = 7 := by omega
    rcases hk2 with rfl | rfl | rfl | rfl | rfl | rfl | rfl | rfl <;> rfl
  · rw [f1 j (by omega) (by omega), k1 j (by omega), eG, mnew_ne (by omega)]
end BREAD
