/-! WHAT IS TOLD AND THE TABLE: cells that fit, what the table says of them -/
section FIT2
variable {J : hJk} {s : hS} {g : hG} {H H' : mH}
theorem fit_town7 {S : Nat → Int32} {A : Nat → Nat → Int32} (h : isTown H 7 S A) : ∀ b, 7 ≤ b → b < 15 → cfit (H.1 b) lay[b]? := by
  intro b h1 h2
  have hb : b = 7 ∨ b = 8 ∨ b = 9 ∨ b = 10 ∨ b = 11 ∨ b = 12 ∨ b = 13 ∨ b = 14 := by omega
  rcases hb with rfl | rfl | rfl | rfl | rfl | rfl | rfl | rfl
  · exact fit_obj rfl h.1 rfl (fun k hk => by
      have h : k = 0 ∨ k = 1 ∨ k = 2 ∨ k = 3 ∨ k = 4 ∨ k = 5 ∨ k = 6 ∨ k = 7 ∨ k = 8 ∨ k = 9 ∨ k = 10 ∨ k = 11 := by omega
      rcases h with rfl | rfl | rfl | rfl | rfl | rfl | rfl | rfl | rfl | rfl | rfl | rfl <;> first | exact ⟨_, rfl⟩ | exact ⟨_, by decide, rfl⟩ | rfl | trivial)
  · exact fit_arr (t := 0) (n := 8) rfl ⟨_, h.2 0 (by decide)⟩
  · exact fit_arr (t := 0) (n := 8) rfl ⟨_, h.2 1 (by decide)⟩
  · exact fit_arr (t := 0) (n := 8) rfl ⟨_, h.2 2 (by decide)⟩
  · exact fit_arr (t := 0) (n := 48) rfl ⟨_, h.2 3 (by decide)⟩
  · exact fit_arr (t := 0) (n := 36) rfl ⟨_, h.2 4 (by decide)⟩
  · exact fit_arr (t := 0) (n := 8) rfl ⟨_, h.2 5 (by decide)⟩
  · exact fit_arr (t := 0) (n := 8) rfl ⟨_, h.2 6 (by decide)⟩
theorem fit_town19 {S : Nat → Int32} {A : Nat → Nat → Int32} (h : isTown H 19 S A) : ∀ b, 19 ≤ b → b < 27 → cfit (H.1 b) lay[b]? := by
  intro b h1 h2
  have hb : b = 19 ∨ b = 20 ∨ b = 21 ∨ b = 22 ∨ b = 23 ∨ b = 24 ∨ b = 25 ∨ b = 26 := by omega
  rcases hb with rfl | rfl | rfl | rfl | rfl | rfl | rfl | rfl
  · exact fit_obj rfl h.1 rfl (fun k hk => by
      have h : k = 0 ∨ k = 1 ∨ k = 2 ∨ k = 3 ∨ k = 4 ∨ k = 5 ∨ k = 6 ∨ k = 7 ∨ k = 8 ∨ k = 9 ∨ k = 10 ∨ k = 11 := by omega
      rcases h with rfl | rfl | rfl | rfl | rfl | rfl | rfl | rfl | rfl | rfl | rfl | rfl <;> first | exact ⟨_, rfl⟩ | exact ⟨_, by decide, rfl⟩ | rfl | trivial)
  · exact fit_arr (t := 0) (n := 8) rfl ⟨_, h.2 0 (by decide)⟩
  · exact fit_arr (t := 0) (n := 8) rfl ⟨_, h.2 1 (by decide)⟩
  · exact fit_arr (t := 0) (n := 8) rfl ⟨_, h.2 2 (by decide)⟩
  · exact fit_arr (t := 0) (n := 48) rfl ⟨_, h.2 3 (by decide)⟩
  · exact fit_arr (t := 0) (n := 36) rfl ⟨_, h.2 4 (by decide)⟩
  · exact fit_arr (t := 0) (n := 8) rfl ⟨_, h.2 5 (by decide)⟩
  · exact fit_arr (t := 0) (n := 8) rfl ⟨_, h.2 6 (by decide)⟩
theorem fit_town33 {S : Nat → Int32} {A : Nat → Nat → Int32} (h : isTown H 33 S A) : ∀ b, 33 ≤ b → b < 41 → cfit (H.1 b) lay[b]? := by
  intro b h1 h2
  have hb : b = 33 ∨ b = 34 ∨ b = 35 ∨ b = 36 ∨ b = 37 ∨ b = 38 ∨ b = 39 ∨ b = 40 := by omega
  rcases hb with rfl | rfl | rfl | rfl | rfl | rfl | rfl | rfl
  · exact fit_obj rfl h.1 rfl (fun k hk => by
      have h : k = 0 ∨ k = 1 ∨ k = 2 ∨ k = 3 ∨ k = 4 ∨ k = 5 ∨ k = 6 ∨ k = 7 ∨ k = 8 ∨ k = 9 ∨ k = 10 ∨ k = 11 := by omega
      rcases h with rfl | rfl | rfl | rfl | rfl | rfl | rfl | rfl | rfl | rfl | rfl | rfl <;> first | exact ⟨_, rfl⟩ | exact ⟨_, by decide, rfl⟩ | rfl | trivial)
  · exact fit_arr (t := 0) (n := 8) rfl ⟨_, h.2 0 (by decide)⟩
  · exact fit_arr (t := 0) (n := 8) rfl ⟨_, h.2 1 (by decide)⟩
  · exact fit_arr (t := 0) (n := 8) rfl ⟨_, h.2 2 (by decide)⟩
  · exact fit_arr (t := 0) (n := 48) rfl ⟨_, h.2 3 (by decide)⟩
  · exact fit_arr (t := 0) (n := 36) rfl ⟨_, h.2 4 (by decide)⟩
  · exact fit_arr (t := 0) (n := 8) rfl ⟨_, h.2 5 (by decide)⟩
  · exact fit_arr (t := 0) (n := 8) rfl ⟨_, h.2 6 (by decide)⟩
theorem fit_town48 {S : Nat → Int32} {A : Nat → Nat → Int32} (h : isTown H 48 S A) : ∀ b, 48 ≤ b → b < 56 → cfit (H.1 b) lay[b]? := by
  intro b h1 h2
  have hb : b = 48 ∨ b = 49 ∨ b = 50 ∨ b = 51 ∨ b = 52 ∨ b = 53 ∨ b = 54 ∨ b = 55 := by omega
  rcases hb with rfl | rfl | rfl | rfl | rfl | rfl | rfl | rfl
  · exact fit_obj rfl h.1 rfl (fun k hk => by
      have h : k = 0 ∨ k = 1 ∨ k = 2 ∨ k = 3 ∨ k = 4 ∨ k = 5 ∨ k = 6 ∨ k = 7 ∨ k = 8 ∨ k = 9 ∨ k = 10 ∨ k = 11 := by omega
      rcases h with rfl | rfl | rfl | rfl | rfl | rfl | rfl | rfl | rfl | rfl | rfl | rfl <;> first | exact ⟨_, rfl⟩ | exact ⟨_, by decide, rfl⟩ | rfl | trivial)
  · exact fit_arr (t := 0) (n := 8) rfl ⟨_, h.2 0 (by decide)⟩
  · exact fit_arr (t := 0) (n := 8) rfl ⟨_, h.2 1 (by decide)⟩
  · exact fit_arr (t := 0) (n := 8) rfl ⟨_, h.2 2 (by decide)⟩
  · exact fit_arr (t := 0) (n := 48) rfl ⟨_, h.2 3 (by decide)⟩
  · exact fit_arr (t := 0) (n := 36) rfl ⟨_, h.2 4 (by decide)⟩
  · exact fit_arr (t := 0) (n := 8) rfl ⟨_, h.2 5 (by decide)⟩
  · exact fit_arr (t := 0) (n := 8) rfl ⟨_, h.2 6 (by decide)⟩
theorem fit_days15 {n : Int32} {f : Nat → Int32} (h : isDays H 15 n f) : ∀ b, 15 ≤ b → b < 17 → cfit (H.1 b) lay[b]? := by
  intro b h1 h2
  have hb : b = 15 ∨ b = 16 := by omega
  rcases hb with rfl | rfl
  · exact fit_obj rfl h.1 rfl (fun k hk => by
      have h : k = 0 ∨ k = 1 := by omega
      rcases h with rfl | rfl <;> first | exact ⟨_, rfl⟩ | exact ⟨_, by decide, rfl⟩ | rfl | trivial)
  · exact fit_arr (t := 0) (n := 160) rfl ⟨_, h.2⟩
theorem fit_days27 {n : Int32} {f : Nat → Int32} (h : isDays H 27 n f) : ∀ b, 27 ≤ b → b < 29 → cfit (H.1 b) lay[b]? := by
  intro b h1 h2
  have hb : b = 27 ∨ b = 28 := by omega
  rcases hb with rfl | rfl
  · exact fit_obj rfl h.1 rfl (fun k hk => by
      have h : k = 0 ∨ k = 1 := by omega
      rcases h with rfl | rfl <;> first | exact ⟨_, rfl⟩ | exact ⟨_, by decide, rfl⟩ | rfl | trivial)
  · exact fit_arr (t := 0) (n := 160) rfl ⟨_, h.2⟩
theorem fit_days41 {n : Int32} {f : Nat → Int32} (h : isDays H 41 n f) : ∀ b, 41 ≤ b → b < 43 → cfit (H.1 b) lay[b]? := by
  intro b h1 h2
  have hb : b = 41 ∨ b = 42 := by omega
  rcases hb with rfl | rfl
  · exact fit_obj rfl h.1 rfl (fun k hk => by
      have h : k = 0 ∨ k = 1 := by omega
      rcases h with rfl | rfl <;> first | exact ⟨_, rfl⟩ | exact ⟨_, by decide, rfl⟩ | rfl | trivial)
  · exact fit_arr (t := 0) (n := 160) rfl ⟨_, h.2⟩
theorem fit_plate17 {S f : Nat → Int32} (h : isPlate H 17 S f) : ∀ b, 17 ≤ b → b < 19 → cfit (H.1 b) lay[b]? := by
  intro b h1 h2
  have hb : b = 17 ∨ b = 18 := by omega
  rcases hb with rfl | rfl
  · exact fit_obj rfl h.1 rfl (fun k hk => by
      have h : k = 0 ∨ k = 1 ∨ k = 2 ∨ k = 3 := by omega
      rcases h with rfl | rfl | rfl | rfl <;> first | exact ⟨_, rfl⟩ | exact ⟨_, by decide, rfl⟩ | rfl | trivial)
  · exact fit_arr (t := 0) (n := 36) rfl ⟨_, h.2⟩
theorem fit_plate29 {S f : Nat → Int32} (h : isPlate H 29 S f) : ∀ b, 29 ≤ b → b < 31 → cfit (H.1 b) lay[b]? := by
  intro b h1 h2
  have hb : b = 29 ∨ b = 30 := by omega
  rcases hb with rfl | rfl
  · exact fit_obj rfl h.1 rfl (fun k hk => by
      have h : k = 0 ∨ k = 1 ∨ k = 2 ∨ k = 3 := by omega
      rcases h with rfl | rfl | rfl | rfl <;> first | exact ⟨_, rfl⟩ | exact ⟨_, by decide, rfl⟩ | rfl | trivial)
  · exact fit_arr (t := 0) (n := 36) rfl ⟨_, h.2⟩
theorem fit_plate43 {S f : Nat → Int32} (h : isPlate H 43 S f) : ∀ b, 43 ≤ b → b < 45 → cfit (H.1 b) lay[b]? := by
  intro b h1 h2
  have hb : b = 43 ∨ b = 44 := by omega
  rcases hb with rfl | rfl
  · exact fit_obj rfl h.1 rfl (fun k hk => by
      have h : k = 0 ∨ k = 1 ∨ k = 2 ∨ k = 3 := by omega
      rcases h with rfl | rfl | rfl | rfl <;> first | exact ⟨_, rfl⟩ | exact ⟨_, by decide, rfl⟩ | rfl | trivial)
  · exact fit_arr (t := 0) (n := 36) rfl ⟨_, h.2⟩
theorem fit_plate74 {S f : Nat → Int32} (h : isPlate H 74 S f) : ∀ b, 74 ≤ b → b < 76 → cfit (H.1 b) lay[b]? := by
  intro b h1 h2
  have hb : b = 74 ∨ b = 75 := by omega
  rcases hb with rfl | rfl
  · exact fit_obj rfl h.1 rfl (fun k hk => by
      have h : k = 0 ∨ k = 1 ∨ k = 2 ∨ k = 3 := by omega
      rcases h with rfl | rfl | rfl | rfl <;> first | exact ⟨_, rfl⟩ | exact ⟨_, by decide, rfl⟩ | rfl | trivial)
  · exact fit_arr (t := 0) (n := 36) rfl ⟨_, h.2⟩
theorem fit_told {τ : Told} (h : isTold H 1 τ) : ∀ b, 1 ≤ b → b < 31 → cfit (H.1 b) lay[b]? := by
  obtain ⟨o0, o1, o2, o3, o4, o5, o6⟩ := h
  obtain ⟨a1, a2, a3⟩ := o6 0 (by decide)
  obtain ⟨b1, b2, b3⟩ := o6 1 (by decide)
  intro b h1 h2
  by_cases c1 : b < 7
  · have hb : b = 1 ∨ b = 2 ∨ b = 3 ∨ b = 4 ∨ b = 5 ∨ b = 6 := by omega
    rcases hb with rfl | rfl | rfl | rfl | rfl | rfl
    · exact fit_obj rfl o0 rfl (fun k hk => by
        have h : k = 0 ∨ k = 1 ∨ k = 2 ∨ k = 3 ∨ k = 4 ∨ k = 5 ∨ k = 6 ∨ k = 7 := by omega
        rcases h with rfl | rfl | rfl | rfl | rfl | rfl | rfl | rfl <;> first | exact ⟨_, rfl⟩ | exact ⟨_, by decide, rfl⟩ | rfl | trivial)
    · exact fit_two (t := 4) (n := 7) rfl o1
    · exact fit_two (t := 5) (n := 15) rfl o2
    · exact fit_two (t := 6) (n := 17) rfl o3
    · exact fit_arr (t := 0) (n := 3) rfl ⟨_, o4⟩
    · exact fit_arr (t := 1) (n := 600) rfl ⟨_, o5⟩
  · by_cases c2 : b < 15
    · exact fit_town7 a1 b (by omega) (by omega)
    · by_cases c3 : b < 17
      · exact fit_days15 a2 b (by omega) (by omega)
      · by_cases c4 : b < 19
        · exact fit_plate17 a3 b (by omega) (by omega)
        · by_cases c5 : b < 27
          · exact fit_town19 b1 b (by omega) (by omega)
          · by_cases c6 : b < 29
            · exact fit_days27 b2 b (by omega) (by omega)
            · exact fit_plate29 b3 b (by omega) (by omega)
/-- what a table tells in its cells from 1 to 30 -/
def tz (z : hS) : Told := ((fun i k => z (7 + 12 * i) k, fun i j x => z (7 + 12 * i + 1 + j) x), (fun i => z (15 + 12 * i) 0, fun i x => z (15 + 12 * i + 1) x), (fun i k => z (17 + 12 * i) k, fun i x => z (17 + 12 * i + 1) x), z 5, z 6, fun k => z 1 (5 + k))
theorem AGT_refl (τ : Told) : AGT τ τ := ⟨fun _ _ => ⟨fun _ _ => rfl, fun _ _ _ _ => rfl, rfl, fun _ _ => rfl, fun _ _ => rfl, fun _ _ => rfl⟩, fun _ _ => rfl, fun _ _ => rfl, fun _ _ => rfl⟩
theorem AGT_trans {τ τ' τ'' : Told} (h : AGT τ τ') (h' : AGT τ' τ'') : AGT τ τ'' := by
  obtain ⟨a, b, c, d⟩ := h
  obtain ⟨a', b', c', d'⟩ := h'
  refine ⟨fun i hi => ?_, fun x hx => (b x hx).trans (b' x hx), fun x hx => (c x hx).trans (c' x hx), fun x hx => (d x hx).trans (d' x hx)⟩
  obtain ⟨e1, e2, e3, e4, e5, e6⟩ := a i hi
  obtain ⟨f1, f2, f3, f4, f5, f6⟩ := a' i hi
  exact ⟨fun k hk => (e1 k hk).trans (f1 k hk), fun j hj x hx => (e2 j hj x hx).trans (f2 j hj x hx), e3.trans f3, fun x hx => (e4 x hx).trans (f4 x hx), fun k hk => (e5 k hk).trans (f5 k hk), fun x hx => (e6 x hx).trans (f6 x hx)⟩
theorem AGT_of {y s : hS} (h : ∀ c, 1 ≤ c → c < 31 → y c = s c) : AGT (tz y) (tz s) := by
  refine ⟨fun i hi => ⟨fun k _ => ?_, fun j hj x _ => ?_, ?_, fun x _ => ?_, fun k _ => ?_, fun x _ => ?_⟩, fun x _ => ?_, fun x _ => ?_, fun k _ => ?_⟩
  · exact congrFun (h (7 + 12 * i) (by omega) (by omega)) k
  · exact congrFun (h (7 + 12 * i + 1 + j) (by omega) (by omega)) x
  · exact congrFun (h (15 + 12 * i) (by omega) (by omega)) 0
  · exact congrFun (h (15 + 12 * i + 1) (by omega) (by omega)) x
  · exact congrFun (h (17 + 12 * i) (by omega) (by omega)) k
  · exact congrFun (h (17 + 12 * i + 1) (by omega) (by omega)) x
  · exact congrFun (h 5 (by omega) (by omega)) x
  · exact congrFun (h 6 (by omega) (by omega)) x
  · exact congrFun (h 1 (by omega) (by omega)) (5 + k)
theorem isTold_tz : isTold (hp J s g) 1 (tz s) := by
  refine ⟨⟨_, hp_obj (a := 1) rfl, fun k hk => by
      have h : k = 0 ∨ k = 1 ∨ k = 2 ∨ k = 3 ∨ k = 4 ∨ k = 5 ∨ k = 6 ∨ k = 7 := by omega
      rcases h with rfl | rfl | rfl | rfl | rfl | rfl | rfl | rfl <;> rfl⟩, ⟨_, hp_two (a := 2) rfl, fun i hi => if_pos hi⟩, ⟨_, hp_two (a := 3) rfl, fun i hi => if_pos hi⟩, ⟨_, hp_two (a := 4) rfl, fun i hi => if_pos hi⟩, hp_arr (a := 5) rfl, hp_arr (a := 6) rfl, fun i hi => ?_⟩
  have h2 : i = 0 ∨ i = 1 := by omega
  rcases h2 with rfl | rfl
  · refine ⟨⟨⟨_, hp_obj (a := 7) rfl, fun k hk => by
      have h : k = 0 ∨ k = 1 ∨ k = 2 ∨ k = 3 ∨ k = 4 ∨ k = 5 ∨ k = 6 ∨ k = 7 ∨ k = 8 ∨ k = 9 ∨ k = 10 ∨ k = 11 := by omega
      rcases h with rfl | rfl | rfl | rfl | rfl | rfl | rfl | rfl | rfl | rfl | rfl | rfl <;> rfl⟩, fun j hj => ?_⟩, ⟨⟨_, hp_obj (a := 15) rfl, fun k hk => by
      have h : k = 0 ∨ k = 1 := by omega
      rcases h with rfl | rfl <;> rfl⟩, hp_arr (a := 16) rfl⟩, ⟨⟨_, hp_obj (a := 17) rfl, fun k hk => by
      have h : k = 0 ∨ k = 1 ∨ k = 2 ∨ k = 3 := by omega
      rcases h with rfl | rfl | rfl | rfl <;> rfl⟩, hp_arr (a := 18) rfl⟩⟩
    have h7 : j = 0 ∨ j = 1 ∨ j = 2 ∨ j = 3 ∨ j = 4 ∨ j = 5 ∨ j = 6 := by omega
    rcases h7 with rfl | rfl | rfl | rfl | rfl | rfl | rfl
    · exact hp_arr (a := 8) rfl
    · exact hp_arr (a := 9) rfl
    · exact hp_arr (a := 10) rfl
    · exact hp_arr (a := 11) rfl
    · exact hp_arr (a := 12) rfl
    · exact hp_arr (a := 13) rfl
    · exact hp_arr (a := 14) rfl
  · refine ⟨⟨⟨_, hp_obj (a := 19) rfl, fun k hk => by
      have h : k = 0 ∨ k = 1 ∨ k = 2 ∨ k = 3 ∨ k = 4 ∨ k = 5 ∨ k = 6 ∨ k = 7 ∨ k = 8 ∨ k = 9 ∨ k = 10 ∨ k = 11 := by omega
      rcases h with rfl | rfl | rfl | rfl | rfl | rfl | rfl | rfl | rfl | rfl | rfl | rfl <;> rfl⟩, fun j hj => ?_⟩, ⟨⟨_, hp_obj (a := 27) rfl, fun k hk => by
      have h : k = 0 ∨ k = 1 := by omega
      rcases h with rfl | rfl <;> rfl⟩, hp_arr (a := 28) rfl⟩, ⟨⟨_, hp_obj (a := 29) rfl, fun k hk => by
      have h : k = 0 ∨ k = 1 ∨ k = 2 ∨ k = 3 := by omega
      rcases h with rfl | rfl | rfl | rfl <;> rfl⟩, hp_arr (a := 30) rfl⟩⟩
    have h7 : j = 0 ∨ j = 1 ∨ j = 2 ∨ j = 3 ∨ j = 4 ∨ j = 5 ∨ j = 6 := by omega
    rcases h7 with rfl | rfl | rfl | rfl | rfl | rfl | rfl
    · exact hp_arr (a := 20) rfl
    · exact hp_arr (a := 21) rfl
    · exact hp_arr (a := 22) rfl
    · exact hp_arr (a := 23) rfl
    · exact hp_arr (a := 24) rfl
    · exact hp_arr (a := 25) rfl
    · exact hp_arr (a := 26) rfl
theorem tab_told {τ : Told} (h : isTold H 1 τ) : AGT (tz (tabS H)) τ := by
  obtain ⟨o0, o1, o2, o3, o4, o5, o6⟩ := h
  refine ⟨fun i hi => ?_, fun x _ => congrFun (tab_arr (a := 5) (t := 0) (n := 3) rfl o4) x, fun x _ => congrFun (tab_arr (a := 6) (t := 1) (n := 600) rfl o5) x, fun k hk => ?_⟩
  · have h2 : i = 0 ∨ i = 1 := by omega
    rcases h2 with rfl | rfl
    · obtain ⟨a1, a2, a3⟩ := o6 0 (by decide)
      refine ⟨fun k hk => ?_, fun j hj x hx => ?_, ?_, fun x hx => ?_, fun k hk => ?_, fun x hx => ?_⟩
      · refine (tab_obj (a := 7) rfl a1.1 (by omega)).trans ?_
        have h : k = 0 ∨ k = 1 ∨ k = 2 ∨ k = 3 ∨ k = 4 := by omega
        rcases h with rfl | rfl | rfl | rfl | rfl <;> rfl
      · have h7 : j = 0 ∨ j = 1 ∨ j = 2 ∨ j = 3 ∨ j = 4 ∨ j = 5 ∨ j = 6 := by omega
        rcases h7 with rfl | rfl | rfl | rfl | rfl | rfl | rfl
        · exact congrFun (tab_arr (a := 8) (t := 0) (n := 8) rfl (a1.2 0 (by decide))) x
        · exact congrFun (tab_arr (a := 9) (t := 0) (n := 8) rfl (a1.2 1 (by decide))) x
        · exact congrFun (tab_arr (a := 10) (t := 0) (n := 8) rfl (a1.2 2 (by decide))) x
        · exact congrFun (tab_arr (a := 11) (t := 0) (n := 48) rfl (a1.2 3 (by decide))) x
        · exact congrFun (tab_arr (a := 12) (t := 0) (n := 36) rfl (a1.2 4 (by decide))) x
        · exact congrFun (tab_arr (a := 13) (t := 0) (n := 8) rfl (a1.2 5 (by decide))) x
        · exact congrFun (tab_arr (a := 14) (t := 0) (n := 8) rfl (a1.2 6 (by decide))) x
      · exact tab_obj (a := 15) (k := 0) rfl a2.1 (by decide)
      · exact congrFun (tab_arr (a := 16) (t := 0) (n := 160) rfl a2.2) x
      · refine (tab_obj (a := 17) rfl a3.1 (by omega)).trans ?_
        have h : k = 0 ∨ k = 1 ∨ k = 2 := by omega
        rcases h with rfl | rfl | rfl <;> rfl
      · exact congrFun (tab_arr (a := 18) (t := 0) (n := 36) rfl a3.2) x
    · obtain ⟨a1, a2, a3⟩ := o6 1 (by decide)
      refine ⟨fun k hk => ?_, fun j hj x hx => ?_, ?_, fun x hx => ?_, fun k hk => ?_, fun x hx => ?_⟩
      · refine (tab_obj (a := 19) rfl a1.1 (by omega)).trans ?_
        have h : k = 0 ∨ k = 1 ∨ k = 2 ∨ k = 3 ∨ k = 4 := by omega
        rcases h with rfl | rfl | rfl | rfl | rfl <;> rfl
      · have h7 : j = 0 ∨ j = 1 ∨ j = 2 ∨ j = 3 ∨ j = 4 ∨ j = 5 ∨ j = 6 := by omega
        rcases h7 with rfl | rfl | rfl | rfl | rfl | rfl | rfl
        · exact congrFun (tab_arr (a := 20) (t := 0) (n := 8) rfl (a1.2 0 (by decide))) x
        · exact congrFun (tab_arr (a := 21) (t := 0) (n := 8) rfl (a1.2 1 (by decide))) x
        · exact congrFun (tab_arr (a := 22) (t := 0) (n := 8) rfl (a1.2 2 (by decide))) x
        · exact congrFun (tab_arr (a := 23) (t := 0) (n := 48) rfl (a1.2 3 (by decide))) x
        · exact congrFun (tab_arr (a := 24) (t := 0) (n := 36) rfl (a1.2 4 (by decide))) x
        · exact congrFun (tab_arr (a := 25) (t := 0) (n := 8) rfl (a1.2 5 (by decide))) x
        · exact congrFun (tab_arr (a := 26) (t := 0) (n := 8) rfl (a1.2 6 (by decide))) x
      · exact tab_obj (a := 27) (k := 0) rfl a2.1 (by decide)
      · exact congrFun (tab_arr (a := 28) (t := 0) (n := 160) rfl a2.2) x
      · refine (tab_obj (a := 29) rfl a3.1 (by omega)).trans ?_
        have h : k = 0 ∨ k = 1 ∨ k = 2 := by omega
        rcases h with rfl | rfl | rfl <;> rfl
      · exact congrFun (tab_arr (a := 30) (t := 0) (n := 36) rfl a3.2) x
  · refine (tab_obj (a := 1) (k := 5 + k) rfl o0 (by omega)).trans ?_
    have h : k = 0 ∨ k = 1 ∨ k = 2 := by omega
    rcases h with rfl | rfl | rfl <;> rfl
/-- what is told, over tables that are alike as far as it is told -/
theorem TownQ_tr {C C' : hS} {R R' : Nat → Int32} {a t0 n li h sa c : Nat} (h0 : ∀ k, k < 5 → C' a k = C a k) (h1 : ∀ j, j < 7 → ∀ x, x < townLen j → C' (a + 1 + j) x = C (a + 1 + j) x) (hR : ∀ j, t0 ≤ j → j < t0 + 129 → R' j = R j) (hQ : TownQ C R a t0 n li h sa c) : TownQ C' R' a t0 n li h sa c := by
  obtain ⟨⟨a1, a2, a3, a4⟩, ⟨b1, b2, b3, b4⟩, ⟨c1, c2, c3⟩, ⟨d1, d2, d3⟩, ⟨e1, e2, e3⟩, f1, f2, f3, f4, f5, f6⟩ := hQ
  refine ⟨⟨(h0 0 (by decide)).trans a1, (hR _ (by omega) (by omega)).trans a2, a3, a4⟩, ⟨(h0 1 (by decide)).trans b1, (hR _ (by omega) (by omega)).trans b2, b3, b4⟩, ⟨(h0 2 (by decide)).trans c1, (hR _ (by omega) (by omega)).trans c2, c3⟩, ⟨(h0 3 (by decide)).trans d1, (hR _ (by omega) (by omega)).trans d2, d3⟩, ⟨(h0 4 (by decide)).trans e1, (hR _ (by omega) (by omega)).trans e2, e3⟩, fun u hu => ?_, fun u hu => ?_, fun u hu => ?_, fun i hi => ?_, fun i hi => ?_, fun i hi => ?_⟩
  · obtain ⟨k, p1, p2, p3, p4⟩ := f1 u hu
    exact ⟨k, p1, p2, (h1 0 (by decide) u (show u < 8 by omega)).trans p3, (hR _ (by omega) (by omega)).trans p4⟩
  · obtain ⟨k, p1, p3, p4⟩ := f2 u hu
    exact ⟨k, p1, (h1 1 (by decide) u (show u < 8 by omega)).trans p3, (hR _ (by omega) (by omega)).trans p4⟩
  · obtain ⟨k, p1, p3, p4⟩ := f3 u hu
    exact ⟨k, p1, (h1 2 (by decide) u (show u < 8 by omega)).trans p3, (hR _ (by omega) (by omega)).trans p4⟩
  · obtain ⟨p1, p2⟩ := f4 i hi
    have e : C' (a + 4) i = C (a + 4) i := h1 3 (by decide) i (show i < 48 by omega)
    rw [e, hR _ (by omega) (by omega)]
    exact ⟨p1, p2⟩
  · obtain ⟨o, t, p1, p2, p3, p4, p5, p6, p7, p8⟩ := f5 i hi
    have e : ∀ x, x < 36 → C' (a + 5) x = C (a + 5) x := fun x hx => h1 4 (by decide) x (show x < 36 by omega)
    refine ⟨o, t, p1, p2, (e _ (by omega)).trans p3, (hR _ (by omega) (by omega)).trans p4, (e _ (by omega)).trans p5, (hR _ (by omega) (by omega)).trans p6, ?_, ?_⟩
    · rw [e _ (by omega)]
      exact p7
    · rw [e _ (by omega), hR _ (by omega) (by omega)]
      exact p8
  · obtain ⟨k, o, p1, p2, p3, p4, p5, p6⟩ := f6 i hi
    exact ⟨k, o, p1, p2, (h1 5 (by decide) i (show i < 8 by omega)).trans p3, (hR _ (by omega) (by omega)).trans p4, (h1 6 (by decide) i (show i < 8 by omega)).trans p5, (hR _ (by omega) (by omega)).trans p6⟩
theorem DaysQ_tr {C C' : hS} {R R' : Nat → Int32} {e d0 D : Nat} (h0 : C' e 0 = C e 0) (h1 : ∀ x, x < 160 → C' (e + 1) x = C (e + 1) x) (hR : ∀ j, d0 ≤ j → j < d0 + 161 → R' j = R j) (hQ : DaysQ C R e d0 D) : DaysQ C' R' e d0 D := by
  obtain ⟨⟨a1, a2, a3⟩, b, c⟩ := hQ
  refine ⟨⟨h0.trans a1, (hR _ (by omega) (by omega)).trans a2, a3⟩, fun i hi => ?_, fun i hi => ?_⟩
  · rw [hR _ (by omega) (by omega), h1 _ (by omega)]
    exact b i hi
  · rw [h1 _ (by omega), h1 _ (by omega), h1 _ (by omega), h1 _ (by omega)]
    exact c i hi
theorem PlateQ_tr {C C' : hS} {R R' : Nat → Int32} {p c0 n li c : Nat} (h0 : ∀ k, k < 3 → C' p k = C p k) (h1 : ∀ x, x < 36 → C' (p + 1) x = C (p + 1) x) (hR : ∀ j, c0 ≤ j → j < c0 + 39 → R' j = R j) (hQ : PlateQ C R p c0 n li c) : PlateQ C' R' p c0 n li c := by
  obtain ⟨⟨a1, a2, a3, a4⟩, ⟨b1, b2, b3⟩, ⟨c1, c2, c3⟩, d, e⟩ := hQ
  refine ⟨⟨(h0 0 (by decide)).trans a1, (hR _ (by omega) (by omega)).trans a2, a3, a4⟩, ⟨(h0 1 (by decide)).trans b1, (hR _ (by omega) (by omega)).trans b2, b3⟩, ⟨(h0 2 (by decide)).trans c1, (hR _ (by omega) (by omega)).trans c2, c3⟩, fun i hi => ?_, fun i hi => ?_⟩
  · rw [hR _ (by omega) (by omega), h1 _ (by omega)]
    exact d i hi
  · rw [h1 _ (by omega), h1 _ (by omega), h1 _ (by omega)]
    exact e i hi
theorem ToldR_tr {y z : hS} {R R' : Nat → Int32} (hA : AGT (tz y) (tz z)) (hR : ∀ j, j < 1268 → R' j = R j) (hI : ToldR z R) : ToldR y R' := by
  obtain ⟨A1, A2, A3, A4⟩ := hA
  obtain ⟨c0, c1, c2, len, ⟨q0, q0', q0''⟩, ⟨q1, q1', q1''⟩, ⟨q2, q2', q2''⟩, ⟨q3, q3', q3''⟩, ⟨q5, q6⟩, q7, hT, hD, hP⟩ := hI
  have B2 : ∀ x, x < 3 → y 5 x = z 5 x := A2
  have B3 : ∀ x, x < 600 → y 6 x = z 6 x := A3
  have B4 : ∀ x, x < 3 → y 1 (5 + x) = z 1 (5 + x) := A4
  refine ⟨c0, c1, c2, len, ⟨(B2 0 (by decide)).trans q0, (hR _ (by decide)).trans q0', q0''⟩, ⟨(B2 1 (by decide)).trans q1, (hR _ (by decide)).trans q1', q1''⟩, ⟨(B2 2 (by decide)).trans q2, (hR _ (by decide)).trans q2', q2''⟩, ⟨(B4 0 (by decide)).trans q3, (hR _ (by decide)).trans q3', q3''⟩, ⟨(B4 1 (by decide)).trans (q5.trans (hR _ (by decide)).symm), (B4 2 (by decide)).trans (q6.trans (hR _ (by decide)).symm)⟩, fun i hi => ?_, fun k hk => ?_, fun k hk => ?_, fun k hk => ?_⟩
  · rw [B3 i (by omega), hR _ (by omega)]
    exact q7 i hi
  · obtain ⟨n, li, h, sa, c, hQ⟩ := hT k hk
    obtain ⟨e1, e2, e3, e4, e5, e6⟩ := A1 k (by omega)
    exact ⟨n, li, h, sa, c, TownQ_tr e1 e2 (fun j _ _ => hR j (by omega)) hQ⟩
  · obtain ⟨D, hQ⟩ := hD k hk
    obtain ⟨e1, e2, e3, e4, e5, e6⟩ := A1 k (by omega)
    exact ⟨D, DaysQ_tr e3 e4 (fun j _ _ => hR j (by omega)) hQ⟩
  · obtain ⟨n, li, c, hQ⟩ := hP k hk
    obtain ⟨e1, e2, e3, e4, e5, e6⟩ := A1 k (by omega)
    exact ⟨n, li, c, PlateQ_tr e5 e6 (fun j _ _ => hR j (by omega)) hQ⟩
end FIT2
