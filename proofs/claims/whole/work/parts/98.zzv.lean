/-! THE LAW'S START, by the table -/
section LWS
variable {xs : Nat → Int32} {sl d : Nat} {H : mH}
theorem fit_reader {I : Nat → Int32} (h : isReader H 32 46 I) : ∀ b, 32 ≤ b → b < 47 → cfit (H.1 b) lay[b]? := by
  obtain ⟨h0, ⟨S, A, h1⟩, ⟨n, f, h2⟩, ⟨S', f', h3⟩, h4⟩ := h
  intro b b1 b2
  by_cases c1 : b = 32
  · subst c1
    exact fit_obj rfl h0 rfl (fun k hk => by
      have h : k = 0 ∨ k = 1 ∨ k = 2 ∨ k = 3 ∨ k = 4 ∨ k = 5 ∨ k = 6 ∨ k = 7 ∨ k = 8 ∨ k = 9 ∨ k = 10 ∨ k = 11 ∨ k = 12 ∨ k = 13 ∨ k = 14 := by omega
      rcases h with rfl | rfl | rfl | rfl | rfl | rfl | rfl | rfl | rfl | rfl | rfl | rfl | rfl | rfl | rfl <;> first | exact ⟨_, rfl⟩ | exact ⟨_, by decide, rfl⟩ | rfl | trivial)
  · by_cases c2 : b < 41
    · exact fit_town33 h1 b (by omega) (by omega)
    · by_cases c3 : b < 43
      · exact fit_days41 h2 b (by omega) (by omega)
      · by_cases c4 : b < 45
        · exact fit_plate43 h3 b (by omega) (by omega)
        · have h : b = 45 ∨ b = 46 := by omega
          rcases h with rfl | rfl
          · exact fit_arr (t := 0) (n := 4) rfl h4
          · trivial
theorem fit_scene {I : Nat → Int32} (h : isScene H 47 48 I) : ∀ b, 47 ≤ b → b < 65 → cfit (H.1 b) lay[b]? := by
  obtain ⟨h0, b0, b1, b2, b3, b4, b5, b6, b7, b8, S, A, h9⟩ := h
  intro b p1 p2
  by_cases c1 : b < 56
  · by_cases c2 : b = 47
    · subst c2
      exact fit_obj rfl h0 rfl (fun k hk => by
        have h : k = 0 ∨ k = 1 ∨ k = 2 ∨ k = 3 ∨ k = 4 ∨ k = 5 ∨ k = 6 ∨ k = 7 ∨ k = 8 ∨ k = 9 ∨ k = 10 ∨ k = 11 := by omega
        rcases h with rfl | rfl | rfl | rfl | rfl | rfl | rfl | rfl | rfl | rfl | rfl | rfl <;> first | exact ⟨_, rfl⟩ | exact ⟨_, by decide, rfl⟩ | rfl | trivial)
    · exact fit_town48 h9 b (by omega) (by omega)
  · have h : b = 56 ∨ b = 57 ∨ b = 58 ∨ b = 59 ∨ b = 60 ∨ b = 61 ∨ b = 62 ∨ b = 63 ∨ b = 64 := by omega
    rcases h with rfl | rfl | rfl | rfl | rfl | rfl | rfl | rfl | rfl
    · exact fit_arr (t := 0) (n := 48) rfl b0
    · exact fit_arr (t := 0) (n := 96) rfl b1
    · exact fit_arr (t := 0) (n := 16) rfl b2
    · exact fit_arr (t := 0) (n := 16) rfl b3
    · exact fit_arr (t := 2) (n := 16) rfl b4
    · exact fit_arr (t := 0) (n := 24) rfl b5
    · exact fit_arr (t := 0) (n := 24) rfl b6
    · exact fit_arr (t := 0) (n := 4) rfl b7
    · exact fit_arr (t := 0) (n := 16) rfl b8
theorem fit_meals {I : Nat → Int32} (h : isMeals H 65 47 I) : ∀ b, 65 ≤ b → b < 70 → cfit (H.1 b) lay[b]? := by
  obtain ⟨h0, b0, b1, b2, b3⟩ := h
  intro b p1 p2
  have h : b = 65 ∨ b = 66 ∨ b = 67 ∨ b = 68 ∨ b = 69 := by omega
  rcases h with rfl | rfl | rfl | rfl | rfl
  · exact fit_obj rfl h0 rfl (fun k hk => by
      have h : k = 0 ∨ k = 1 ∨ k = 2 ∨ k = 3 ∨ k = 4 ∨ k = 5 ∨ k = 6 ∨ k = 7 ∨ k = 8 ∨ k = 9 ∨ k = 10 ∨ k = 11 ∨ k = 12 := by omega
      rcases h with rfl | rfl | rfl | rfl | rfl | rfl | rfl | rfl | rfl | rfl | rfl | rfl | rfl <;> first | exact ⟨_, rfl⟩ | exact ⟨_, by decide, rfl⟩ | rfl | trivial)
  · exact fit_arr (t := 0) (n := 1536) rfl b0
  · exact fit_arr (t := 0) (n := 256) rfl b1
  · exact fit_arr (t := 0) (n := 54) rfl b2
  · exact fit_arr (t := 0) (n := 2048) rfl b3
theorem fit_market (h : isMarket H 70) : ∀ b, 70 ≤ b → b < 73 → cfit (H.1 b) lay[b]? := by
  obtain ⟨h0, b0, b1⟩ := h
  intro b p1 p2
  have h : b = 70 ∨ b = 71 ∨ b = 72 := by omega
  rcases h with rfl | rfl | rfl
  · exact fit_obj rfl h0 rfl (fun k hk => by
      have h : k = 0 ∨ k = 1 := by omega
      rcases h with rfl | rfl <;> first | exact ⟨_, rfl⟩ | exact ⟨_, by decide, rfl⟩ | rfl | trivial)
  · exact fit_arr (t := 0) (n := 49) rfl b0
  · exact fit_arr (t := 0) (n := 7) rfl b1
theorem fit_guess (h : isGuess H 73 74 78 79) : ∀ b, 73 ≤ b → b < 81 → cfit (H.1 b) lay[b]? := by
  obtain ⟨h0, b0, b1, b2, b3, b4, S, f, h9⟩ := h
  intro b p1 p2
  have h : b = 73 ∨ (74 ≤ b ∧ b < 76) ∨ b = 76 ∨ b = 77 ∨ b = 78 ∨ b = 79 ∨ b = 80 := by omega
  rcases h with rfl | h | rfl | rfl | rfl | rfl | rfl
  · exact fit_obj rfl h0 rfl (fun k hk => by
      have h : k = 0 ∨ k = 1 ∨ k = 2 ∨ k = 3 ∨ k = 4 ∨ k = 5 := by omega
      rcases h with rfl | rfl | rfl | rfl | rfl | rfl <;> first | exact ⟨_, rfl⟩ | exact ⟨_, by decide, rfl⟩ | rfl | trivial)
  · exact fit_plate74 h9 b h.1 h.2
  · exact fit_arr (t := 0) (n := 42) rfl b0
  · exact fit_arr (t := 0) (n := 42) rfl b1
  · exact fit_arr (t := 0) (n := 13) rfl b2
  · exact fit_arr (t := 0) (n := 13) rfl b3
  · exact fit_arr (t := 0) (n := 7) rfl b4
theorem fit_model {I A E P : Nat → Int32} (h : isModel H 81 I A E P) : ∀ b, 81 ≤ b → b < 103 → cfit (H.1 b) lay[b]? := by
  obtain ⟨h0, h1, h2, h18, b3, b4, b5, b6, b7, b8, b9, b10, b11, b12, b13, b14, b15, b16, b17, b19, b20, b21⟩ := h
  intro b p1 p2
  have h : b = 81 ∨ b = 82 ∨ b = 83 ∨ b = 84 ∨ b = 85 ∨ b = 86 ∨ b = 87 ∨ b = 88 ∨ b = 89 ∨ b = 90 ∨ b = 91 ∨ b = 92 ∨ b = 93 ∨ b = 94 ∨ b = 95 ∨ b = 96 ∨ b = 97 ∨ b = 98 ∨ b = 99 ∨ b = 100 ∨ b = 101 ∨ b = 102 := by omega
  rcases h with rfl | rfl | rfl | rfl | rfl | rfl | rfl | rfl | rfl | rfl | rfl | rfl | rfl | rfl | rfl | rfl | rfl | rfl | rfl | rfl | rfl | rfl
  · exact fit_obj rfl h0 rfl (fun k hk => by
      have h : k = 0 ∨ k = 1 ∨ k = 2 ∨ k = 3 ∨ k = 4 ∨ k = 5 ∨ k = 6 ∨ k = 7 ∨ k = 8 ∨ k = 9 ∨ k = 10 ∨ k = 11 ∨ k = 12 ∨ k = 13 ∨ k = 14 ∨ k = 15 ∨ k = 16 ∨ k = 17 ∨ k = 18 ∨ k = 19 ∨ k = 20 ∨ k = 21 ∨ k = 22 ∨ k = 23 ∨ k = 24 ∨ k = 25 ∨ k = 26 ∨ k = 27 ∨ k = 28 ∨ k = 29 ∨ k = 30 ∨ k = 31 ∨ k = 32 ∨ k = 33 ∨ k = 34 ∨ k = 35 ∨ k = 36 ∨ k = 37 ∨ k = 38 ∨ k = 39 ∨ k = 40 ∨ k = 41 := by omega
      rcases h with rfl | rfl | rfl | rfl | rfl | rfl | rfl | rfl | rfl | rfl | rfl | rfl | rfl | rfl | rfl | rfl | rfl | rfl | rfl | rfl | rfl | rfl | rfl | rfl | rfl | rfl | rfl | rfl | rfl | rfl | rfl | rfl | rfl | rfl | rfl | rfl | rfl | rfl | rfl | rfl | rfl | rfl <;> first | exact ⟨_, rfl⟩ | exact ⟨_, by decide, rfl⟩ | rfl | trivial)
  · exact fit_arr (t := 0) (n := 5072) rfl ⟨_, h1⟩
  · exact fit_arr (t := 2) (n := 3) rfl ⟨_, h2⟩
  · exact fit_arr (t := 0) (n := 161) rfl b3
  · exact fit_arr (t := 0) (n := 24) rfl b4
  · exact fit_arr (t := 0) (n := 24) rfl b5
  · exact fit_arr (t := 0) (n := 4) rfl b6
  · exact fit_arr (t := 0) (n := 96) rfl b7
  · exact fit_arr (t := 0) (n := 16) rfl b8
  · exact fit_arr (t := 0) (n := 16) rfl b9
  · exact fit_arr (t := 2) (n := 16) rfl b10
  · exact fit_arr (t := 0) (n := 48) rfl b11
  · exact fit_arr (t := 0) (n := 256) rfl b12
  · exact fit_arr (t := 0) (n := 256) rfl b13
  · exact fit_arr (t := 0) (n := 256) rfl b14
  · exact fit_arr (t := 0) (n := 8) rfl b15
  · exact fit_arr (t := 0) (n := 8) rfl b16
  · exact fit_arr (t := 0) (n := 6561) rfl b17
  · exact fit_arr (t := 0) (n := 6561) rfl ⟨_, h18⟩
  · exact fit_lng (t := 0) (n := 13) rfl b19
  · exact fit_lng (t := 0) (n := 13) rfl b20
  · exact fit_lng (t := 0) (n := 7) rfl b21
theorem fit_all {τ : Told} {im : Nat → Option Nat} {I A E P : Nat → Int32} (h : isBread H 0 τ im) (h' : isModel H 81 I A E P) : ∀ b, cfit (H.1 b) lay[b]? := by
  obtain ⟨⟨s, h0⟩, h1, ⟨f, h2, -⟩, ⟨I4, h4⟩, ⟨I5, h5⟩, ⟨I6, h6⟩, h7, h8⟩ := h
  intro b
  by_cases c0 : b = 0
  · subst c0
    exact fit_obj rfl h0 rfl (fun k hk => by
      have h : k = 0 ∨ k = 1 ∨ k = 2 ∨ k = 3 ∨ k = 4 ∨ k = 5 ∨ k = 6 ∨ k = 7 := by omega
      rcases h with rfl | rfl | rfl | rfl | rfl | rfl | rfl | rfl <;> first | exact ⟨_, rfl⟩ | exact ⟨_, by decide, rfl⟩ | rfl | trivial)
  · by_cases c1 : b < 31
    · exact fit_told h1 b (by omega) c1
    · by_cases c2 : b = 31
      · subst c2
        have h2' : H.1 31 = some (mQ 7 3 f) := h2
        rw [h2']
        exact ⟨_, rfl⟩
      · by_cases c3 : b < 47
        · exact fit_reader h4 b (by omega) c3
        · by_cases c4 : b < 65
          · exact fit_scene h5 b (by omega) c4
          · by_cases c5 : b < 70
            · exact fit_meals h6 b (by omega) c5
            · by_cases c6 : b < 73
              · exact fit_market h7 b (by omega) c6
              · by_cases c7 : b < 81
                · exact fit_guess h8 b (by omega) c7
                · by_cases c8 : b < 103
                  · exact fit_model h' b (by omega) c8
                  · rw [lay_out (by omega)]
                    trivial
theorem law_LI : ∃ (J : hJk) (s : hS) (g : hG), (∀ r, Runs xs sl 1000 0 18 [some (.retAddr 99), some (.ref 0), some (.ref 81), some (.int 0)] [] (hp J s g) r → Runs xs sl 1000 0 0 [some (.retAddr 99), none, none, none] [] Hnil r) ∧ LI J s 0 := by
  obtain ⟨H2, hr, hb, hm, hz⟩ := law_start (xs := xs) (sl := sl)
  have hP : hp (mixJ (fun _ => true) H2 (fun _ _ => .null, fun _ _ => none, fun _ => none, H2)) (mixS (fun _ => true) H2 (fun _ _ => 0)) (mixG (fun _ => true) H2 (fun _ _ => 0)) = H2 := hp_mix (fun _ => true) (fun a _ => fit_all hb hm a) (fun a h => by cases h)
  obtain ⟨⟨s, h0⟩, h1, ⟨f, h2, h3⟩, ⟨I4, h4⟩, ⟨I5, h5⟩, ⟨I6, h6⟩, h7, h8⟩ := hb
  obtain ⟨n0, n1, n2, n18, -⟩ := hm
  have h2' : H2.1 31 = some (mQ 7 3 f) := h2
  have AA : AGT (tz (tabS H2)) τ0 := tab_told h1
  have t82 : tabS H2 82 = va_up Z1 6 (-1) := tab_arr (a := 82) (t := 0) (n := 5072) rfl n1
  have t83 : tabS H2 83 = Z1 := tab_arr (a := 83) (t := 2) (n := 3) rfl n2
  have t99 : tabS H2 99 = Z1 := tab_arr (a := 99) (t := 0) (n := 6561) rfl n18
  have t6 : tabS H2 6 = Z1 := tab_arr (a := 6) (t := 1) (n := 600) rfl h1.2.2.2.2.2.1
  have t34 : tabS H2 81 34 = 0 := tab_obj (a := 81) (k := 34) rfl n0 (by decide)
  have t733 : tabS H2 73 3 = nI 78 := tab_obj (a := 73) (k := 3) rfl h8.1 (by decide)
  have t734 : tabS H2 73 4 = nI 79 := tab_obj (a := 73) (k := 4) rfl h8.1 (by decide)
  have eI : ∀ k, k < 3 → (mixJ (fun _ => true) H2 (fun _ _ => .null, fun _ _ => none, fun _ => none, H2)).2.2.1 k = none := by
    intro k hk
    show tcQ (H2.1 31) k = none
    rw [h2']
    exact h3 k hk
  have hP' : hp (mixJ (fun _ => true) H2 (fun _ _ => .null, fun _ _ => none, fun _ => none, H2)) (tabS H2) (mixG (fun _ => true) H2 (fun _ _ => 0)) = H2 := hP
  refine ⟨mixJ (fun _ => true) H2 (fun _ _ => .null, fun _ _ => none, fun _ => none, H2), tabS H2, mixG (fun _ => true) H2 (fun _ _ => 0), fun r h => ?_, ?_⟩
  · rw [hP'] at h
    exact hr r h
  refine ⟨⟨0, 0, 0, 0, ⟨AA.2.1 0 (by decide), by rw [t82]; rfl, by decide⟩, ⟨AA.2.1 1 (by decide), by rw [t82]; rfl, by decide⟩, ⟨AA.2.1 2 (by decide), by rw [t82]; rfl, by decide⟩, ⟨AA.2.2.2 0 (by decide), by rw [t82]; rfl, by decide⟩, ⟨(AA.2.2.2 1 (by decide)).trans (by rw [t82]; rfl), (AA.2.2.2 2 (by decide)).trans (by rw [t82]; rfl)⟩, fun i hi => absurd hi (Nat.not_lt_zero _), fun k hk => absurd hk (Nat.not_lt_zero _), fun k hk => absurd hk (Nat.not_lt_zero _), fun k hk => absurd hk (Nat.not_lt_zero _)⟩, fun i _ => by rw [t6]; rfl, ⟨78, by first | exact Or.inl rfl | exact Or.inr rfl, t733, t734⟩, ⟨0, Nat.le_refl _, t34, fun v _ => ⟨0, Nat.le_refl _, by rw [t99]; rfl⟩⟩, fun k hk => Or.inl ⟨eI k hk, by rw [t83]; rfl⟩, fun k k' t t' h1 h2 h3 h4 => ?_, ?_⟩
  · rw [eI k h1] at h4
    cases h4
  · have e : imn (mixJ (fun _ => true) H2 (fun _ _ => .null, fun _ _ => none, fun _ => none, H2)) = 0 := by
      unfold imn
      rw [eI 0 (by decide), eI 1 (by decide), eI 2 (by decide)]
      rfl
    rw [e]
    exact hz
end LWS
