/-! TEXT: what the class keeps of a good line of days, of a plate -/
section TXZA
variable {xs : Nat → Int32} {sl d : Nat} {J : hJk} {s x y : hS} {g : hG}
theorem keep_days {R : Nat → Int32} {v h sa c D cr : Nat} {a : Nat → Nat} (hv : v = 5 ∨ v = 6 ∨ v = 7 ∨ v = 8 ∨ v = 9 ∨ v = 10) (hSl : ∀ j, j < (shL (shW v)).length → s 45 j = nI (a j) ∧ okSl (shc (shW v) j) (a 0) (a j)) (hW : DaysQ s R 41 0 D) (hfu : fuW 1 v h sa c D cr = false) : ∃ s4 : hS, Runs xs sl (d+4) 102 0 [some (.ref (32)), some (.int ( nI v))] [] (hp J (s) g) (none, hp J s4 g) ∧ DaysQ s4 (rwD v D a R) 41 0 (D + 1) ∧ (∀ c, c ≠ 41 → c ≠ 42 → s4 c = s c) := by
  obtain ⟨⟨q1, q2, q3⟩, -⟩ := id hW
  have hh : D < 40 := by
    have e : fuW 1 v h sa c D cr = decide (40 ≤ D) := by rcases hv with rfl | rfl | rfl | rfl | rfl | rfl <;> rfl
    rw [e] at hfu
    have := of_decide_eq_false hfu
    omega
  rcases hv with rfl | rfl | rfl | rfl | rfl | rfl
  · obtain ⟨z0, o0⟩ := hSl 0 (by decide)
    obtain ⟨z1, o1⟩ := hSl 1 (by decide)
    obtain ⟨z2, o2⟩ := hSl 2 (by decide)
    obtain ⟨z3, o3⟩ := hSl 3 (by decide)
    have l0 := kn_111 o0
    have l1 := kn_116 o1
    have l2 := kw_119 o2
    have l3 := kn_118 o3
    have r := @kp_say xs sl d J s g D (a 2) (a 3) q1 hh (by omega) z2 z3
    rw [z0, z1] at r
    refine ⟨_, r, DW_deed (k := 0) (x := a 0) (y := a 1) hW hh ⟨by decide, Or.inr ⟨rfl, rfl⟩, fun _ => ⟨l0, l1⟩, fun h => by omega, fun h => by omega, fun h => by omega, fun h => by omega⟩ (fun _ => viS_vw (a 2) l2 (a 3) (by omega)) (by rw [va_up_self]) (by rw [va_up_ne _ _ (by decide), va_up_self]; rfl), fun c h h' => by rw [va_up_ne _ _ h, va_up_ne _ _ h']⟩
  · obtain ⟨z0, o0⟩ := hSl 0 (by decide)
    obtain ⟨z1, o1⟩ := hSl 1 (by decide)
    have l0 := kw_107 o0
    have l1 := kn_111 o1
    have r := @kp_deed xs sl d J s g 6 D (by decide) q1 hh
    rw [z0, z1] at r
    refine ⟨_, r, DW_deed (k := 1) (x := a 0) (y := a 1) hW hh ⟨by decide, Or.inr ⟨rfl, rfl⟩, fun h => by omega, fun _ => ⟨l0, l1⟩, fun h => by omega, fun h => by omega, fun h => by omega⟩ (fun h => by omega) (by rw [va_up_self]) (by rw [va_up_ne _ _ (by decide), va_up_self]; rfl), fun c h h' => by rw [va_up_ne _ _ h, va_up_ne _ _ h']⟩
  · obtain ⟨z0, o0⟩ := hSl 0 (by decide)
    obtain ⟨z1, o1⟩ := hSl 1 (by decide)
    have l0 := kn_104 o0
    have l1 := kn_108 o1
    have r := @kp_deed xs sl d J s g 7 D (by decide) q1 hh
    rw [z0, z1] at r
    refine ⟨_, r, DW_deed (k := 2) (x := a 0) (y := a 1) hW hh ⟨by decide, Or.inr ⟨rfl, rfl⟩, fun h => by omega, fun h => by omega, fun _ => ⟨l0, l1⟩, fun h => by omega, fun h => by omega⟩ (fun h => by omega) (by rw [va_up_self]) (by rw [va_up_ne _ _ (by decide), va_up_self]; rfl), fun c h h' => by rw [va_up_ne _ _ h, va_up_ne _ _ h']⟩
  · obtain ⟨z0, o0⟩ := hSl 0 (by decide)
    obtain ⟨z1, o1⟩ := hSl 1 (by decide)
    have l0 := kn_104 o0
    have l1 := kn_108 o1
    have r := @kp_deed xs sl d J s g 8 D (by decide) q1 hh
    rw [z0, z1] at r
    refine ⟨_, r, DW_deed (k := 3) (x := a 0) (y := a 1) hW hh ⟨by decide, Or.inr ⟨rfl, rfl⟩, fun h => by omega, fun h => by omega, fun h => by omega, fun _ => ⟨l0, l1⟩, fun h => by omega⟩ (fun h => by omega) (by rw [va_up_self]) (by rw [va_up_ne _ _ (by decide), va_up_self]; rfl), fun c h h' => by rw [va_up_ne _ _ h, va_up_ne _ _ h']⟩
  · obtain ⟨z0, o0⟩ := hSl 0 (by decide)
    obtain ⟨z1, o1⟩ := hSl 1 (by decide)
    have l0 := kn_104 o0
    have l1 := kn_111 o1
    have r := @kp_deed xs sl d J s g 9 D (by decide) q1 hh
    rw [z0, z1] at r
    refine ⟨_, r, DW_deed (k := 4) (x := a 0) (y := a 1) hW hh ⟨by decide, Or.inr ⟨rfl, rfl⟩, fun h => by omega, fun h => by omega, fun h => by omega, fun h => by omega, fun _ => ⟨l0, l1⟩⟩ (fun h => by omega) (by rw [va_up_self]) (by rw [va_up_ne _ _ (by decide), va_up_self]; rfl), fun c h h' => by rw [va_up_ne _ _ h, va_up_ne _ _ h']⟩
  · have r := @kp_night xs sl d J s g D q1 hh
    refine ⟨_, r, DW_deed (k := 5) (x := 0) (y := 0) hW hh ⟨by decide, Or.inl rfl, fun h => by omega, fun h => by omega, fun h => by omega, fun h => by omega, fun h => by omega⟩ (fun h => by omega) (by rw [va_up_self]) (by rw [va_up_ne _ _ (by decide), va_up_self]; rfl), fun c h h' => by rw [va_up_ne _ _ h, va_up_ne _ _ h']⟩
theorem keep_plate {R : Nat → Int32} {v n li h sa c D cr T : Nat} {a : Nat → Nat} {x10 : Int32} (hv : v = 11 ∨ v = 18 ∨ v = 19) (hSl : ∀ j, j < (shL (shW v)).length → s 45 j = nI (a j) ∧ okSl (shc (shW v) j) (a 0) (a j)) (h8 : s 32 8 = 2) (hW : PlateW s R n li cr T) (eT : s 32 14 = nI T - 1) (hfu : fuW 2 v h sa c D cr = false) (f10 : x10 = nI T - 1) : ∃ (s4 : hS) (n' li' cr' T' : Nat), Runs xs sl (d+4) 102 0 [some (.ref (32)), some (.int ( nI v))] [] (hp J (s) g) (none, hp J s4 g) ∧ PlateW s4 (rwP v cr a R) n' li' cr' T' ∧ s4 32 14 = nI T' - 1 ∧ g10T v a x10 = nI T' - 1 ∧ KF s s4 ∧ s4 41 = s 41 ∧ s4 33 = s 33 := by
  obtain ⟨⟨x1, x2, x3⟩, ⟨b1, b2, b3⟩, ⟨d1, d2, d3⟩, -, -, hT⟩ := id hW
  rcases hv with rfl | rfl | rfl
  · obtain ⟨z0, o0⟩ := hSl 0 (by decide)
    have r := @kp_topics2 xs sl d J s g h8
    rw [z0] at r
    refine ⟨_, a 0, li, cr, T, r, PW_topics hW (kn_99 o0) (va_up_self _ _ _) (va_up_ne _ _ (by decide)), ?_, f10, ⟨fun c hc => va_up_ne _ _ (by omega), fun j _ _ => by rw [va_up_ne _ _ (by decide)]⟩, va_up_ne _ _ (by decide), va_up_ne _ _ (by decide)⟩
    rw [va_up_ne _ _ (by decide)]; exact eT
  · obtain ⟨z0, o0⟩ := hSl 0 (by decide)
    have r := @kp_lies xs sl d J s g
    rw [z0] at r
    refine ⟨_, n, a 0, cr, T, r, PW_lies hW (kn_122 o0) (va_up_self _ _ _) (va_up_ne _ _ (by decide)), ?_, f10, ⟨fun c hc => va_up_ne _ _ (by omega), fun j _ _ => by rw [va_up_ne _ _ (by decide)]⟩, va_up_ne _ _ (by decide), va_up_ne _ _ (by decide)⟩
    rw [va_up_ne _ _ (by decide)]; exact eT
  · obtain ⟨z0, o0⟩ := hSl 0 (by decide)
    obtain ⟨z1, o1⟩ := hSl 1 (by decide)
    obtain ⟨z2, o2⟩ := hSl 2 (by decide)
    obtain ⟨z3, o3⟩ := hSl 3 (by decide)
    have l0 := kw_98 o0
    have l1 := kn_116 o1
    have l2 := kw_119 o2
    have l3 := kn_118 o3
    have hh : cr < 12 := by
      have := of_decide_eq_false (show decide (12 ≤ cr) = false from hfu)
      omega
    have r := @kp_crumb xs sl d J s g T cr (a 1) (a 2) (a 3) (by omega) eT d1 hh l1 (by omega) z1 z2 z3
    rw [z0] at r
    refine ⟨_, n, li, cr + 1, max T (a 1 + 1), r, PW_crumb hW hh l0 l1 l2 l3 (by rw [va_up_self]) (by rw [va_up_ne _ _ (by decide), va_up_self]), ?_, ?_, ⟨fun c hc => by rw [va_up_ne _ _ (by omega), va_up_ne _ _ (by omega), va_up_ne _ _ (by omega)], fun j hj hj' => by rw [va_up_ne _ _ (by decide), va_up_ne _ _ (by decide), va_up_self, va_up_ne _ _ hj']⟩, by rw [va_up_ne _ _ (by decide), va_up_ne _ _ (by decide), va_up_ne _ _ (by decide)], by rw [va_up_ne _ _ (by decide), va_up_ne _ _ (by decide), va_up_ne _ _ (by decide)]⟩
    · rw [va_up_ne _ _ (by decide), va_up_ne _ _ (by decide), va_up_self, va_up_self]
    · rw [f10]
      exact mxG T (by omega) (a 1) (by omega)
end TXZA
