/-! TEXT: a good draft makes a told text -/
section TXZJ
theorem TW_Q {C x : hS} {R0 R : Nat → Int32} {a t0 n li h sa c G T : Nat} (hW : TownW C R0 n li h sa c G T) (hG : G ≤ h) (hT : T ≤ n) (e0 : ∀ j, j < 5 → x a j = C 33 j) (e1 : ∀ i, i < 8 → x (a + 1) i = C 34 i) (e2 : ∀ i, i < 8 → x (a + 2) i = C 35 i) (e3 : ∀ i, i < 8 → x (a + 3) i = C 36 i) (e4 : ∀ i, i < 48 → x (a + 4) i = C 37 i) (e5 : ∀ i, i < 36 → x (a + 5) i = C 38 i) (e6 : ∀ i, i < 8 → x (a + 6) i = C 39 i) (e7 : ∀ i, i < 8 → x (a + 7) i = C 40 i) (eR : ∀ i, i < 129 → R (t0 + i) = R0 i) : TownQ x R a t0 n li h sa c := by
  obtain ⟨⟨x1, x2, x3⟩, ⟨b1, b2, b3⟩, ⟨d1, d2, d3⟩, ⟨f1, f2, f3⟩, ⟨q1, q2, q3⟩, g1, g2, g3, g4, g5, g6, g7⟩ := hW
  have p1 : 2 ^ G ≤ 2 ^ h := Nat.pow_le_pow_right (by decide) hG
  refine ⟨⟨by rw [e0 0 (by decide)]; exact x1, by rw [← Nat.add_zero t0, eR 0 (by decide)]; exact x2, x3⟩, ⟨by rw [e0 1 (by decide)]; exact b1, by rw [eR 1 (by decide)]; exact b2, b3⟩, ⟨by rw [e0 2 (by decide)]; exact d1, by rw [eR 2 (by decide)]; exact d2, d3⟩, ⟨by rw [e0 3 (by decide)]; exact f1, by rw [eR 3 (by decide)]; exact f2, f3⟩, ⟨by rw [e0 4 (by decide)]; exact q1, by rw [eR 4 (by decide)]; exact q2, q3⟩, fun u hu => ?_, fun u hu => ?_, fun u hu => ?_, fun u hu => ?_, fun u hu => ?_, fun u hu => ?_⟩
  · rw [e1 u (by omega), Nat.add_assoc, eR (5 + u) (by omega)]; exact g1 u hu
  · rw [e2 u (by omega), Nat.add_assoc, eR (13 + u) (by omega)]; exact g2 u hu
  · obtain ⟨k, k1, k2, k3⟩ := g3 u (by omega)
    rw [e3 u (by omega), Nat.add_assoc, eR (21 + u) (by omega)]; exact ⟨k, by omega, k2, k3⟩
  · rw [e4 u (by omega), Nat.add_assoc, eR (29 + u) (by omega)]; exact g4 u hu
  · obtain ⟨o, t, k1, k2, k3⟩ := g5 u hu
    rw [e5 (3 * u) (by omega), e5 (3 * u + 1) (by omega), e5 (3 * u + 2) (by omega), show t0 + 77 + 3 * u = t0 + (77 + 3 * u) by omega, show t0 + (77 + 3 * u) + 1 = t0 + (77 + 3 * u + 1) by omega, show t0 + (77 + 3 * u) + 2 = t0 + (77 + 3 * u + 2) by omega, eR (77 + 3 * u) (by omega), eR (77 + 3 * u + 1) (by omega), eR (77 + 3 * u + 2) (by omega)]
    exact ⟨o, t, k1, by omega, k3⟩
  · rw [e6 u (by omega), e7 u (by omega), show t0 + 113 + 2 * u = t0 + (113 + 2 * u) by omega, show t0 + (113 + 2 * u) + 1 = t0 + (113 + 2 * u + 1) by omega, eR (113 + 2 * u) (by omega), eR (113 + 2 * u + 1) (by omega)]
    exact g6 u hu
theorem DW_Q {C x : hS} {R0 R : Nat → Int32} {e d0 D : Nat} (hW : DaysQ C R0 41 0 D) (e0 : x e 0 = C 41 0) (e1 : ∀ i, i < 160 → x (e + 1) i = C 42 i) (eR : ∀ i, i < 161 → R (d0 + i) = R0 i) : DaysQ x R e d0 D := by
  obtain ⟨⟨q1, q2, q3⟩, q4, q5⟩ := hW
  refine ⟨⟨by rw [e0]; exact q1, by rw [← Nat.add_zero d0, eR 0 (by decide)]; exact q2, q3⟩, fun i hi => ?_, fun i hi => ?_⟩
  · rw [e1 i (by omega), Nat.add_assoc, eR (1 + i) (by omega)]
    have := q4 i hi
    rw [Nat.zero_add] at this
    exact this
  · obtain ⟨k, a, b, k1, k2, k3⟩ := q5 i hi
    rw [e1 (4 * i) (by omega), e1 (4 * i + 1) (by omega), e1 (4 * i + 2) (by omega), e1 (4 * i + 3) (by omega)]
    exact ⟨k, a, b, k1, k2, k3⟩
theorem PW_Q {C x : hS} {R0 R : Nat → Int32} {p c0 n li c T : Nat} (hW : PlateW C R0 n li c T) (hT : T ≤ n) (e0 : ∀ j, j < 3 → x p j = C 43 j) (e1 : ∀ i, i < 36 → x (p + 1) i = C 44 i) (eR : ∀ i, i < 39 → R (c0 + i) = R0 i) : PlateQ x R p c0 n li c := by
  obtain ⟨⟨x1, x2, x3⟩, ⟨b1, b2, b3⟩, ⟨d1, d2, d3⟩, g1, g2, g3⟩ := hW
  refine ⟨⟨by rw [e0 0 (by decide)]; exact x1, by rw [← Nat.add_zero c0, eR 0 (by decide)]; exact x2, x3⟩, ⟨by rw [e0 1 (by decide)]; exact b1, by rw [eR 1 (by decide)]; exact b2, b3⟩, ⟨by rw [e0 2 (by decide)]; exact d1, by rw [eR 2 (by decide)]; exact d2, d3⟩, fun i hi => ?_, fun i hi => ?_⟩
  · rw [e1 i (by omega), Nat.add_assoc, eR (3 + i) (by omega)]
    exact g1 i hi
  · obtain ⟨k, t, k1, k2, k3⟩ := g2 i hi
    rw [e1 (3 * i) (by omega), e1 (3 * i + 1) (by omega), e1 (3 * i + 2) (by omega)]
    exact ⟨k, t, k1, by omega, k3⟩
end TXZJ
