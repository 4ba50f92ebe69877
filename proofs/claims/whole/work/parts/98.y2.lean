/-! IMAGES: Told.copyFrom -/
section IM2
variable {xs : Nat → Int32} {sl d : Nat} {H H' : mH}
theorem refsTo.at {a ty b i : Nat} (h : refsTo H a ty b) (hty : 4 ≤ ty ∧ ty < 8) (hi : i < 2) : hQ H a (nI i) = some (.ref (b + 12 * i)) := by
  obtain ⟨f, h1, h2⟩ := h
  unfold hQ
  rw [h1]
  dsimp only
  rw [if_pos hty, if_neg (nI_in hi (by decide)), nI_clamp (by omega), h2 i hi]
  rfl
def upT (τ : Told) (i : Nat) (S : Nat → Int32) (A : Nat → Nat → Int32) (n : Int32) (f P q : Nat → Int32) : Told := ((va_up τ.1.1 i S, va_up τ.1.2 i A), (va_up τ.2.1.1 i n, va_up τ.2.1.2 i f), (va_up τ.2.2.1.1 i P, va_up τ.2.2.1.2 i q), τ.2.2.2)
set_option maxHeartbeats 1000000 in
theorem td_cpBody {t t' i : Nat} {τ τ' : Told} (h : isTold H t τ) (h' : isTold H t' τ') (ht : t + 30 ≤ t' ∨ t' + 30 ≤ t) (hi : i < 2) : ∃ (H3 : mH) (S : Nat → Int32) (A : Nat → Nat → Int32) (f q : Nat → Int32), (∀ r, Runs xs sl (d + 1 + 1) 147 2 [some (.ref t), some (.ref t'), some (.int (nI (i + 1)))] [] H3 r → Runs xs sl (d + 1 + 1) 147 2 [some (.ref t), some (.ref t'), some (.int (nI i))] [] H r) ∧ isTold H3 t (upT τ i S A (tDN τ' i) f (tPS τ' i) q) ∧ isTold H3 t' τ' ∧ (∀ k, k < 5 → S k = tTS τ' i k) ∧ (∀ j, j < 7 → ∀ x, x < townLen j → A j x = tTA τ' i j x) ∧ (∀ x, x < 160 → f x = tDF τ' i x) ∧ (∀ x, x < 36 → q x = tPF τ' i x) ∧ (∀ x, ¬ (t ≤ x ∧ x < t + 30) → H3.1 x = H.1 x) ∧ H3.2 = H.2 := by
  obtain ⟨o0, o1, o2, o3, o4, o5, o6⟩ := id h
  obtain ⟨p0, p1, p2, p3, p4, p5, p6⟩ := id h'
  obtain ⟨a1, a2, a3⟩ := o6 i hi
  obtain ⟨b1, b2, b3⟩ := p6 i hi
  obtain ⟨H1, S, A, r1, i1, e1, e2, k1, z1⟩ := tw_copy (xs := xs) (sl := sl) (d := d) a1 b1 (by omega)
  obtain ⟨H2, f, r2, i2, e3, k2, z2⟩ := dy_copy (xs := xs) (sl := sl) (d := d) (H := H1) (a := t + 14 + 12 * i) (b := t' + 14 + 12 * i) (a2.kept (fun k _ _ => k1 k (by omega))) (b2.kept (fun k _ _ => k1 k (by omega))) (by omega)
  obtain ⟨H3, q, r3, i3, e4, k3, z3⟩ := pl_copy (xs := xs) (sl := sl) (d := d) (H := H2) (a := t + 16 + 12 * i) (b := t' + 16 + 12 * i) (a3.kept (fun k _ _ => by rw [k2 k (by omega), k1 k (by omega)])) (b3.kept (fun k _ _ => by rw [k2 k (by omega), k1 k (by omega)])) (by omega)
  have kk : ∀ x, ¬ (t + 6 + 12 * i ≤ x ∧ x < t + 18 + 12 * i) → H3.1 x = H.1 x := fun x hx => by rw [k3 x (by omega), k2 x (by omega), k1 x (by omega)]
  refine ⟨H3, S, A, f, q, fun r hr => ?_, ⟨o0.kept (kk _ (by omega)), o1.kept (kk _ (by omega)), o2.kept (kk _ (by omega)), o3.kept (kk _ (by omega)), by rw [kk _ (by omega)]; exact o4, by rw [kk _ (by omega)]; exact o5, fun i' hi' => ?_⟩, h'.kept (fun k _ _ => kk k (by omega)), e1, e2, e3, e4, fun x hx => kk x (by omega), by rw [z3, z2, z1]⟩
  · have c : ¬ (2 : Int32) ≤ nI i := nI_ge (b := 2) hi (by decide)
    have g0 : hO H t 7 0 = some (.ref (t + 1)) := o0.get 0 (by decide)
    have g0' : hO H t' 7 0 = some (.ref (t' + 1)) := p0.get 0 (by decide)
    have g1 : hO H1 t 7 1 = some (.ref (t + 2)) := (o0.kept (k1 t (by omega))).get 1 (by decide)
    have g1' : hO H1 t' 7 1 = some (.ref (t' + 2)) := (p0.kept (k1 t' (by omega))).get 1 (by decide)
    have g2 : hO H2 t 7 2 = some (.ref (t + 3)) := (o0.kept (by rw [k2 t (by omega), k1 t (by omega)])).get 2 (by decide)
    have g2' : hO H2 t' 7 2 = some (.ref (t' + 3)) := (p0.kept (by rw [k2 t' (by omega), k1 t' (by omega)])).get 2 (by decide)
    have q0 := o1.at (by decide) hi
    have q0' := p1.at (by decide) hi
    have q1 := (o2.kept (k1 (t + 2) (by omega))).at (by decide) hi
    have q1' := (p2.kept (k1 (t' + 2) (by omega))).at (by decide) hi
    have q2 := (o3.kept (show H2.1 (t + 3) = H.1 (t + 3) by rw [k2 _ (by omega), k1 _ (by omega)])).at (by decide) hi
    have q2' := (p3.kept (show H2.1 (t' + 3) = H.1 (t' + 3) by rw [k2 _ (by omega), k1 _ (by omega)])).at (by decide) hi
    rw [r147_2]
    simp only [r147_3, r147_4, r147_7, r147_8, r147_11, r147_12, r147_13, r147_13n, r147_14, r147_17, r147_18, if_neg c, g0, g0', q0, q0', Option.some.injEq, exists_eq_left']
    rw [r147_19 a1.cls]
    refine r1.on ?_
    simp only [Option.toList, List.singleton_append, List.append_nil, List.cons_append, List.nil_append, r147_22, r147_23, r147_26, r147_27, r147_28, r147_28n, r147_29, r147_32, r147_33, g1, g1', q1, q1', Option.some.injEq, exists_eq_left']
    rw [r147_34 (a2.kept (fun k _ _ => k1 k (by omega))).1.cls]
    refine r2.on ?_
    simp only [Option.toList, List.singleton_append, List.append_nil, List.cons_append, List.nil_append, r147_37, r147_38, r147_41, r147_42, r147_43, r147_43n, r147_44, r147_47, r147_48, g2, g2', q2, q2', Option.some.injEq, exists_eq_left']
    rw [r147_49 (a3.kept (fun k _ _ => by rw [k2 k (by omega), k1 k (by omega)])).1.cls]
    refine r3.on ?_
    simp only [Option.toList, List.singleton_append, List.append_nil, List.cons_append, List.nil_append, r147_52, r147_52_1, r147_55, nI_1]
    exact hr
  · show isTown H3 (t + 6 + 12 * i') (va_up τ.1.1 i S i') (va_up τ.1.2 i A i') ∧ isDays H3 (t + 14 + 12 * i') (va_up τ.2.1.1 i (tDN τ' i) i') (va_up τ.2.1.2 i f i') ∧ isPlate H3 (t + 16 + 12 * i') (va_up τ.2.2.1.1 i (tPS τ' i) i') (va_up τ.2.2.1.2 i q i')
    by_cases c : i' = i
    · subst c
      rw [va_up_self, va_up_self, va_up_self, va_up_self, va_up_self, va_up_self]
      exact ⟨i1.kept (fun k _ _ => by rw [k3 k (by omega), k2 k (by omega)]), i2.kept (fun k _ _ => k3 k (by omega)), i3⟩
    · rw [va_up_ne _ _ c, va_up_ne _ _ c, va_up_ne _ _ c, va_up_ne _ _ c, va_up_ne _ _ c, va_up_ne _ _ c]
      obtain ⟨w1, w2, w3⟩ := o6 i' hi'
      exact ⟨w1.kept (fun k _ _ => kk k (by omega)), w2.kept (fun k _ _ => kk k (by omega)), w3.kept (fun k _ _ => kk k (by omega))⟩
/-- two of what is told, alike as far as it is told -/
def AGT (τ τ' : Told) : Prop := (∀ i, i < 2 → (∀ k, k < 5 → tTS τ i k = tTS τ' i k) ∧ (∀ j, j < 7 → ∀ x, x < townLen j → tTA τ i j x = tTA τ' i j x) ∧ tDN τ i = tDN τ' i ∧ (∀ x, x < 160 → tDF τ i x = tDF τ' i x) ∧ (∀ k, k < 3 → tPS τ i k = tPS τ' i k) ∧ ∀ x, x < 36 → tPF τ i x = tPF τ' i x) ∧ (∀ x, x < 3 → tC τ x = tC τ' x) ∧ (∀ x, x < 600 → tB τ x = tB τ' x) ∧ ∀ k, k < 3 → tN τ k = tN τ' k
set_option maxHeartbeats 1000000 in
theorem td_copy {t t' : Nat} {τ τ' : Told} (h : isTold H t τ) (h' : isTold H t' τ') (ht : t + 30 ≤ t' ∨ t' + 30 ≤ t) (hb : ∀ i, i < 600 → fits .byte (.int (tB τ' i)) = true) : ∃ (H2 : mH) (τ2 : Told), Runs xs sl (d + 1 + 1) 147 0 [some (.ref t), some (.ref t'), none] [] H (none, H2) ∧ isTold H2 t τ2 ∧ AGT τ2 τ' ∧ (∀ x, ¬ (t ≤ x ∧ x < t + 30) → H2.1 x = H.1 x) ∧ H2.2 = H.2 := by
  obtain ⟨Ha, Sa, Aa, fa, qa, ra, ia, ja, a1, a2, a3, a4, ka, za⟩ := td_cpBody (xs := xs) (sl := sl) (d := d) h h' ht (i := 0) (by decide)
  obtain ⟨Hb, Sb, Ab, fb, qb, rb, ib, jb, b1, b2, b3, b4, kb, zb⟩ := td_cpBody (xs := xs) (sl := sl) (d := d) ia ja ht (i := 1) (by decide)
  obtain ⟨o0, o1, o2, o3, o4, o5, o6⟩ := id ib
  obtain ⟨p0, p1, p2, p3, p4, p5, p6⟩ := id jb
  obtain ⟨Hc, ec, ic, kc, zc⟩ := cp_arr p4 o4 (by decide) (by decide) (Or.inl rfl)
  have p5c : Hc.1 (t' + 5) = some (mI 1 600 (tB τ')) := by rw [kc _ (by omega)]; exact p5
  have o5c : Hc.1 (t + 5) = some (mI 1 600 (tB τ)) := by rw [kc _ (by omega)]; exact o5
  obtain ⟨Hd, ed, id', kd, zd⟩ := cp_arr p5c o5c (by decide) (by decide) (Or.inr hb)
  have o0d := o0.kept (show Hd.1 t = Hb.1 t by rw [kd t (by omega), kc t (by omega)])
  have p0d := p0.kept (show Hd.1 t' = Hb.1 t' by rw [kd t' (by omega), kc t' (by omega)])
  obtain ⟨He, ee, ie, ke, ze⟩ := o0d.put 5 (.int (tN τ' 0))
  obtain ⟨Hf, ef, if', kf, zf⟩ := ie.put 6 (.int (tN τ' 1))
  obtain ⟨Hg, eg, ig, kg, zg⟩ := if'.put 7 (.int (tN τ' 2))
  have kk : ∀ x, x ≠ t → x ≠ t + 4 → x ≠ t + 5 → Hg.1 x = Hb.1 x := fun x h1 h2 h3 => by rw [kg x h1, kf x h1, ke x h1, kd x h3, kc x h2]
  have c4 : Hg.1 (t + 4) = some (mI 0 3 (va_cpy (tC τ') (tC τ) 0 0 3)) := by rw [kg _ (by omega), kf _ (by omega), ke _ (by omega), kd _ (by omega)]; exact ic
  have c5 : Hg.1 (t + 5) = some (mI 1 600 (va_cpy (tB τ') (tB τ) 0 0 600)) := by rw [kg _ (by omega), kf _ (by omega), ke _ (by omega)]; exact id'
  refine ⟨Hg, ((upT (upT τ 0 Sa Aa (tDN τ' 0) fa (tPS τ' 0) qa) 1 Sb Ab (tDN τ' 1) fb (tPS τ' 1) qb).1, (upT (upT τ 0 Sa Aa (tDN τ' 0) fa (tPS τ' 0) qa) 1 Sb Ab (tDN τ' 1) fb (tPS τ' 1) qb).2.1, (upT (upT τ 0 Sa Aa (tDN τ' 0) fa (tPS τ' 0) qa) 1 Sb Ab (tDN τ' 1) fb (tPS τ' 1) qb).2.2.1, va_cpy (tC τ') (tC τ) 0 0 3, va_cpy (tB τ') (tB τ) 0 0 600, tN τ'), ?_, ⟨?_, o1.kept (kk _ (by omega) (by omega) (by omega)), o2.kept (kk _ (by omega) (by omega) (by omega)), o3.kept (kk _ (by omega) (by omega) (by omega)), c4, c5, fun i hi => ?_⟩, ⟨fun i hi => ?_, fun x hx => ?_, fun x hx => ?_, fun k _ => rfl⟩, fun x hx => ?_, by rw [zg, zf, ze, zd, zc, zb, za]⟩
  · have cc : (2 : Int32) ≤ nI 2 := by decide
    have n4 : hO Hb t 7 3 = some (.ref (t + 4)) := o0.get 3 (by decide)
    have n4' : hO Hb t' 7 3 = some (.ref (t' + 4)) := p0.get 3 (by decide)
    have n5 : hO Hc t 7 4 = some (.ref (t + 5)) := (o0.kept (kc t (by omega))).get 4 (by decide)
    have n5' : hO Hc t' 7 4 = some (.ref (t' + 5)) := (p0.kept (kc t' (by omega))).get 4 (by decide)
    have m5 : hO Hd t' 7 5 = some (.int (tN τ' 0)) := p0d.get 5 (by decide)
    have m6 : hO He t' 7 6 = some (.int (tN τ' 1)) := (p0d.kept (ke t' (by omega))).get 6 (by decide)
    have m7 : hO Hf t' 7 7 = some (.int (tN τ' 2)) := (p0d.kept (show Hf.1 t' = Hd.1 t' by rw [kf t' (by omega), ke t' (by omega)])).get 7 (by decide)
    have ec : hCp Hb (t' + 4) (t + 4) 0 0 3 = some Hc := ec
    have ed : hCp Hc (t' + 5) (t + 5) 0 0 600 = some Hd := ed
    simp only [r147_0, r147_1, r147_1_1]
    refine ra _ (rb _ ?_)
    rw [r147_2]
    simp only [r147_3, r147_4, r147_58, r147_58n, r147_59, r147_62, r147_63, r147_64, r147_67, r147_68, r147_69, r147_72, r147_72n, r147_73, r147_76, r147_77, r147_78, r147_81, r147_82, r147_85, r147_88, r147_89, r147_89n, r147_90, r147_93, r147_96, r147_97, r147_97n, r147_98, r147_101, r147_104, r147_105, r147_105n, r147_106, r147_109, r147_112, if_pos cc, n4, n4', ec, n5, n5', ed, m5, ee, m6, ef, m7, eg, Option.some.injEq, exists_eq_left']
  · obtain ⟨F, f1, f2⟩ := ig
    refine ⟨F, f1, fun k hk => ?_⟩
    rw [f2 k hk]
    have h8 : k = 0 ∨ k = 1 ∨ k = 2 ∨ k = 3 ∨ k = 4 ∨ k = 5 ∨ k = 6 ∨ k = 7 := by omega
    rcases h8 with rfl | rfl | rfl | rfl | rfl | rfl | rfl | rfl <;> simp [va_up, toldF]
  · obtain ⟨w1, w2, w3⟩ := o6 i hi
    exact ⟨w1.kept (fun k _ _ => kk k (by omega) (by omega) (by omega)), w2.kept (fun k _ _ => kk k (by omega) (by omega) (by omega)), w3.kept (fun k _ _ => kk k (by omega) (by omega) (by omega))⟩
  · have h2 : i = 0 ∨ i = 1 := by omega
    rcases h2 with rfl | rfl
    · exact ⟨a1, a2, rfl, a3, fun k _ => rfl, a4⟩
    · exact ⟨b1, b2, rfl, b3, fun k _ => rfl, b4⟩
  · show va_cpy (tC τ') (tC τ) 0 0 3 x = _
    rw [pk_cpy_in (by omega) (by omega)]; congr 1; omega
  · show va_cpy (tB τ') (tB τ) 0 0 600 x = _
    rw [pk_cpy_in (by omega) (by omega)]; congr 1; omega
  · rw [kk x (by omega) (by omega) (by omega), kb x hx, ka x hx]
end IM2
