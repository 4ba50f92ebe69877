/-! ALL METHODS IN ONE FORM -/
section STP
variable {xs : Nat → Int32} {sl d : Nat} {J : hJk} {s : hS} {g : hG} {K M M' : Nat} {L L' : mL}
theorem LI_mono {K' : Nat} (h : K ≤ K') (hL : LI J s K) : LI J s K' := ⟨hL.1, hL.2.1, hL.2.2.1, Stamp_of rfl rfl h hL.2.2.2.1, hL.2.2.2.2⟩
theorem of_Same (hL : LI J s K) (h : Same xs sl J s g M M' L L') : StepI xs sl (hp J s g) M M' L L' (K + 257) := by
  obtain ⟨v, x, y, g', r1, hC', r2, hR⟩ := h
  obtain ⟨hI, hB, hG, hK, hM⟩ := hL
  have y0 : ∀ c, (1 ≤ c ∧ c < 31) ∨ c = 73 ∨ c = 82 ∨ c = 83 ∨ c = 99 → y c = s c := fun c hc => (hR.1 c (by omega)).trans (hC' c (by omega))
  have y34 : y 81 34 = s 81 34 := hR.2.trans (congrFun (hC' 81 (by omega)) 34)
  exact ⟨v, hp J x g, hp J y g', zC0, zC81, r1, r2, J, y, g', rfl, LI_told (s := s) (fun c h1 h2 => y0 c (by omega)) (fun j _ => congrFun (y0 82 (by omega)) j) hI, BY_of (y0 6 (by omega)) hB, Guess_of (y0 73 (by omega)) hG, Stamp_of y34 (y0 99 (by omega)) (by omega) hK, IMS_of (y0 83 (by omega)) (fun i _ => congrFun (y0 82 (by omega)) i) hM⟩
theorem of_SameV (hL : LI J s K) (h : SameV xs sl J s g M M' L L' K) : StepI xs sl (hp J s g) M M' L L' (K + 257) := by
  obtain ⟨v, x, y, g', r1, hC', r2, hR, hS'⟩ := h
  obtain ⟨hI, hB, hG, hK, hM⟩ := hL
  have y0 : ∀ c, (1 ≤ c ∧ c < 31) ∨ c = 73 ∨ c = 82 ∨ c = 83 → y c = s c := fun c hc => (hR c (by omega)).trans (hC' c (by omega))
  exact ⟨v, hp J x g, hp J y g', zC0, zC81, r1, r2, J, y, g', rfl, LI_told (s := s) (fun c h1 h2 => y0 c (by omega)) (fun j _ => congrFun (y0 82 (by omega)) j) hI, BY_of (y0 6 (by omega)) hB, Guess_of (y0 73 (by omega)) hG, hS', IMS_of (y0 83 (by omega)) (fun i _ => congrFun (y0 82 (by omega)) i) hM⟩
theorem of_StepT (hL : LI J s K) (h : StepT xs sl J s g M M' L L') : StepI xs sl (hp J s g) M M' L L' (K + 257) := by
  obtain ⟨v, x, y, g', r1, r2, h1, h2, h3, h4, h5, h6, h7⟩ := h
  obtain ⟨hI, hB, hG, hK, hM⟩ := hL
  exact ⟨v, hp J x g, hp J y g', zC0, zC81, r1, r2, J, y, g', rfl, h1, h7 hB, Guess_of h6 hG, Stamp_of h5 h4 (by omega) hK, IMS_of h3 h2 hM⟩
theorem of_SameG (hL : LI J s K) (h : SameG xs sl J s g M M' L L') : StepI xs sl (hp J s g) M M' L L' (K + 257) := by
  obtain ⟨v, x, y, g', r1, hC', hG', r2, hR⟩ := h
  obtain ⟨hI, hB, hG, hK, hM⟩ := hL
  have y0 : ∀ c, (1 ≤ c ∧ c < 31) ∨ c = 82 ∨ c = 83 ∨ c = 99 → y c = s c := fun c hc => (hR.1 c (by omega)).trans (hC' c (by omega))
  have y34 : y 81 34 = s 81 34 := hR.2.trans (congrFun (hC' 81 (by omega)) 34)
  exact ⟨v, hp J x g, hp J y g', zC0, zC81, r1, r2, J, y, g', rfl, LI_told (s := s) (fun c h1 h2 => y0 c (by omega)) (fun j _ => congrFun (y0 82 (by omega)) j) hI, BY_of (y0 6 (by omega)) hB, Guess_of (hR.1 73 (by omega)) hG', Stamp_of y34 (y0 99 (by omega)) (by omega) hK, IMS_of (y0 83 (by omega)) (fun i _ => congrFun (y0 82 (by omega)) i) hM⟩
theorem of_StepI {H : mH} (h : StepI xs sl H M M' L L' K) : StepI xs sl H M M' L L' (K + 257) := by
  obtain ⟨v, H1, H2, c1, c2, r1, r2, J2, s2, g2, e, hL⟩ := h
  exact ⟨v, H1, H2, c1, c2, r1, r2, J2, s2, g2, e, LI_mono (by omega) hL⟩
end STP
