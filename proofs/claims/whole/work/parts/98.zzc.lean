/-! TEXT: a line of each sort, read by both -/
section TXZC
variable {xs : Nat → Int32} {sl d d' : Nat} {J : hJk} {s t x y : hS} {g : hG}
theorem TownW_fr {C C' : hS} {R : Nat → Int32} {n li h sa c G T : Nat} (hf : ∀ c, 33 ≤ c → c ≤ 40 → C' c = C c) (hW : TownW C R n li h sa c G T) : TownW C' R n li h sa c G T := by
  unfold TownW at hW ⊢
  rw [hf 33 (by decide) (by decide), hf 34 (by decide) (by decide), hf 35 (by decide) (by decide), hf 36 (by decide) (by decide), hf 37 (by decide) (by decide), hf 38 (by decide) (by decide), hf 39 (by decide) (by decide), hf 40 (by decide) (by decide)]
  exact hW
def RLn (xs : Nat → Int32) (sl d : Nat) (J : hJk) (g : hG) (so : Nat) (t t' : hS) : Prop := if so = 0 then Runs xs sl (d + 8) 184 0 [some (.ref 81), none, none, none, none] [] (hp J t g) (none, hp J t' g) else if so = 1 then Runs xs sl (d + 8) 197 0 [some (.ref 81), none, none, none, none, none, none] [] (hp J t g) (none, hp J t' g) else Runs xs sl (d + 8) 198 0 [some (.ref 81), none, none] [] (hp J t g) (none, hp J t' g)
def STEP (xs : Nat → Int32) (sl d d' : Nat) (J : hJk) (g : hG) (b : Nat → Nat) (N so : Nat) (σ : TxS) (s t : hS) : Prop := ∃ (σ' : TxS) (s1 s4 t' : hS), Runs xs sl (d + 4 + 1 + 1 + 1) 88 0 [some (.ref 32)] [] (hp J s g) (none, hp J s1 g) ∧ TKC b N (rn isBl b N σ.2.1) s s1 ∧ Runs xs sl (d + 4 + 1 + 1 + 1) 94 0 [some (.ref 32), none, none, none] [] (hp J s1 g) (some (.int (bI (!σ'.1))), hp J s4 g) ∧ RLn xs sl d' J g so t t' ∧ CM b N σ' s4 ∧ RM b N σ' t' ∧ XF s s4 ∧ LF t t' ∧ (σ'.1 = false → REL b N so σ' s4 t' ∧ σ.2.1 < σ'.2.1)
theorem step_town {b : Nat → Nat} {N : Nat} {σ : TxS} (hw : σ.1 = false) (hR : REL b N 0 σ s t) : STEP xs sl d d' J g b N 0 σ s t := by
  obtain ⟨hC, hM, h8, ⟨h1, sa1, c1, D, cr, hK⟩, hCR, hD⟩ := hR
  obtain ⟨k1, k2, k3, k4, k5⟩ := id hK
  by_cases hF : σ.2.2.1 = 0
  · obtain ⟨n, li, h, sa, c, G, T, hW, eG, f9, eT, f10⟩ := hD hF
    obtain ⟨-, -, ⟨d1, d2, d3⟩, ⟨e1, e2, e3⟩, ⟨q1, q2, q3⟩, -, -, -, -, -, -, hG, hT⟩ := id hW
    have hK' : CNT s h sa c D cr := ⟨⟨d1, d3⟩, ⟨e1, e3⟩, ⟨q1, q3⟩, k4, k5⟩
    have hCR' : CR t h sa c := ⟨⟨d2, d3⟩, ⟨e2, e3⟩, ⟨q2, q3⟩⟩
    obtain ⟨t', z1, z2, z3, z4, z5⟩ := @rl_town xs sl d' J t g b N h sa c D cr σ hw hM hCR' _ rfl
    refine step_gen (t := t) (Q := fun t' => t' 84 = rwT (slV b N σ) h sa c (fun j => slV b N (lnI b N (fuW 0 (slV b N σ) h sa c D cr) σ j)) (t 84) ∧ t' 81 9 = g9T (slV b N σ) (fun j => slV b N (lnI b N (fuW 0 (slV b N σ) h sa c D cr) σ j)) (t 81 9) ∧ t' 81 10 = g10T (slV b N σ) (fun j => slV b N (lnI b N (fuW 0 (slV b N σ) h sa c D cr) σ j)) (t 81 10)) (RL := RLn xs sl d' J g 0) hw hC h8 (by decide) hK' rfl ⟨t', z1, z2, z3, z4, z5⟩ ?_
    intro t' s3 hQ hf v22 bg hSl hfu _
    obtain ⟨Q1, Q2, Q3⟩ := hQ
    obtain ⟨s4, n', li', h', sa', c', G', T', r, w1, w2, w3, w4, w5, w6, w7, w8⟩ := @keep_town xs sl (d + 2) J s3 g (t 84) (slV b N σ) n li h sa c G T D cr (fun j => slV b N (lnI b N (fuW 0 (slV b N σ) h sa c D cr) σ j)) (t 81 9) (t 81 10) (bgT _ v22 bg) hSl ((hf.2 8 (by omega)).trans h8) (TownW_fr (fun c h1 h2 => hf.1 c (by omega) (by omega)) hW) ((hf.2 13 (by omega)).trans eG) ((hf.2 14 (by omega)).trans eT) hfu f9 f10
    obtain ⟨-, -, ⟨y1, -, y3⟩, ⟨y4, -, y6⟩, ⟨y7, -, y9⟩, -⟩ := id w1
    refine ⟨s4, r, w6, ⟨h', sa', c', D, cr, ⟨y1, y3⟩, ⟨y4, y6⟩, ⟨y7, y9⟩, ?_, ?_⟩, n', li', h', sa', c', G', T', ?_, w2, ?_, w3, ?_⟩
    · rw [w7, hf.1 41 (by decide) (by decide)]; exact k4
    · rw [w8, hf.1 43 (by decide) (by decide)]; exact k5
    · rw [Q1]; exact w1
    · rw [Q2]; exact w4
    · rw [Q3]; exact w5
  · obtain ⟨h', sa', c', hCR⟩ := hCR
    obtain ⟨t', z1, z2, z3, z4, z5⟩ := @rl_town xs sl d' J t g b N h' sa' c' D cr σ hw hM hCR _ rfl
    rw [lnS_F (fu' := fuW 0 (slV b N σ) h1 sa1 c1 D cr) hF] at z2
    exact step_gen (t := t) (Q := fun _ => True) (RL := RLn xs sl d' J g 0) hw hC h8 (by decide) hK rfl ⟨t', z1, z2, z3, z4, fun _ _ => trivial⟩ (fun _ _ _ _ _ _ _ _ h => absurd h hF)
theorem step_days {b : Nat → Nat} {N : Nat} {σ : TxS} (hw : σ.1 = false) (hR : REL b N 1 σ s t) : STEP xs sl d d' J g b N 1 σ s t := by
  obtain ⟨hC, hM, h8, ⟨h1, sa1, c1, D1, cr, hK⟩, hCR, hD⟩ := hR
  obtain ⟨k1, k2, k3, k4, k5⟩ := id hK
  by_cases hF : σ.2.2.1 = 0
  · obtain ⟨D, hW⟩ := hD hF
    obtain ⟨⟨d1, d2, d3⟩, -⟩ := id hW
    have hK' : CNT s h1 sa1 c1 D cr := ⟨k1, k2, k3, ⟨d1, d3⟩, k5⟩
    obtain ⟨t', z1, z2, z3, z4, z5⟩ := @rl_days xs sl (d' + 1) J t g b N h1 sa1 c1 D cr σ hw hM d2 d3 _ rfl
    have z1 := (show d' + 1 + 3 + 1 + 1 + 1 + 1 = d' + 8 by omega) ▸ z1
    refine step_gen (t := t) (Q := fun t' => t' 84 = rwD (slV b N σ) D (fun j => slV b N (lnI b N (fuW 1 (slV b N σ) h1 sa1 c1 D cr) σ j)) (t 84)) (RL := RLn xs sl d' J g 1) hw hC h8 (by decide) hK' rfl ⟨t', z1, z2, z3, z4, z5⟩ ?_
    intro t' s3 Q1 hf v22 bg hSl hfu _
    have hW3 : DaysQ s3 (t 84) 41 0 D := DaysQ_fr (hf.1 41 (by decide) (by decide)) (hf.1 42 (by decide) (by decide)) (fun i _ => rfl) hW
    obtain ⟨s4, r, w1, w2⟩ := @keep_days xs sl (d + 2) J s3 g (t 84) (slV b N σ) h1 sa1 c1 D cr (fun j => slV b N (lnI b N (fuW 1 (slV b N σ) h1 sa1 c1 D cr) σ j)) (bgD _ v22 bg) hSl hW3 hfu
    obtain ⟨⟨y1, -, y3⟩, -⟩ := id w1
    refine ⟨s4, r, ⟨fun c hc => w2 c (by omega) (by omega), fun j _ _ => by rw [w2 32 (by decide) (by decide)]⟩, ⟨h1, sa1, c1, D + 1, cr, ?_, ?_, ?_, ⟨y1, y3⟩, ?_⟩, D + 1, ?_⟩
    · rw [w2 33 (by decide) (by decide), hf.1 33 (by decide) (by decide)]; exact k1
    · rw [w2 33 (by decide) (by decide), hf.1 33 (by decide) (by decide)]; exact k2
    · rw [w2 33 (by decide) (by decide), hf.1 33 (by decide) (by decide)]; exact k3
    · rw [w2 43 (by decide) (by decide), hf.1 43 (by decide) (by decide)]; exact k5
    · rw [Q1]; exact w1
  · obtain ⟨D', hD', hD40⟩ := hCR
    obtain ⟨t', z1, z2, z3, z4, z5⟩ := @rl_days xs sl (d' + 1) J t g b N h1 sa1 c1 D' cr σ hw hM hD' hD40 _ rfl
    have z1 := (show d' + 1 + 3 + 1 + 1 + 1 + 1 = d' + 8 by omega) ▸ z1
    rw [lnS_F (fu' := fuW 1 (slV b N σ) h1 sa1 c1 D1 cr) hF] at z2
    exact step_gen (t := t) (Q := fun _ => True) (RL := RLn xs sl d' J g 1) hw hC h8 (by decide) hK rfl ⟨t', z1, z2, z3, z4, fun _ _ => trivial⟩ (fun _ _ _ _ _ _ _ _ h => absurd h hF)
theorem PlateW_fr {C C' : hS} {R : Nat → Int32} {n li c T : Nat} (h1 : C' 43 = C 43) (h2 : C' 44 = C 44) (h : PlateW C R n li c T) : PlateW C' R n li c T := by
  unfold PlateW at h ⊢
  rw [h1, h2]
  exact h
theorem step_plate {b : Nat → Nat} {N : Nat} {σ : TxS} (hw : σ.1 = false) (hR : REL b N 2 σ s t) : STEP xs sl d d' J g b N 2 σ s t := by
  obtain ⟨hC, hM, h8, ⟨h1, sa1, c1, D1, cr1, hK⟩, hCR, hD⟩ := hR
  obtain ⟨k1, k2, k3, k4, k5⟩ := id hK
  by_cases hF : σ.2.2.1 = 0
  · obtain ⟨n, li, cr, T, hW, eT, f10⟩ := hD hF
    obtain ⟨-, -, ⟨d1, d2, d3⟩, -⟩ := id hW
    have hK' : CNT s h1 sa1 c1 D1 cr := ⟨k1, k2, k3, k4, ⟨d1, d3⟩⟩
    obtain ⟨t', z1, z2, z3, z4, z5⟩ := @rl_plate xs sl d' J t g b N h1 sa1 c1 D1 cr σ hw hM d2 d3 _ rfl
    refine step_gen (t := t) (Q := fun t' => t' 84 = rwP (slV b N σ) cr (fun j => slV b N (lnI b N (fuW 2 (slV b N σ) h1 sa1 c1 D1 cr) σ j)) (t 84) ∧ t' 81 10 = g10T (slV b N σ) (fun j => slV b N (lnI b N (fuW 2 (slV b N σ) h1 sa1 c1 D1 cr) σ j)) (t 81 10)) (RL := RLn xs sl d' J g 2) hw hC h8 (by decide) hK' rfl ⟨t', z1, z2, z3, z4, z5⟩ ?_
    intro t' s3 hQ hf v22 bg hSl hfu _
    obtain ⟨Q1, Q3⟩ := hQ
    obtain ⟨s4, n', li', cr', T', r, w1, w3, w5, w6, w7, w8⟩ := @keep_plate xs sl (d + 2) J s3 g (t 84) (slV b N σ) n li h1 sa1 c1 D1 cr T (fun j => slV b N (lnI b N (fuW 2 (slV b N σ) h1 sa1 c1 D1 cr) σ j)) (t 81 10) (bgP _ v22 bg) hSl ((hf.2 8 (by omega)).trans h8) (PlateW_fr (hf.1 43 (by decide) (by decide)) (hf.1 44 (by decide) (by decide)) hW) ((hf.2 14 (by omega)).trans eT) hfu f10
    obtain ⟨-, -, ⟨y1, -, y3⟩, -⟩ := id w1
    refine ⟨s4, r, w6, ⟨h1, sa1, c1, D1, cr', ?_, ?_, ?_, ?_, ⟨y1, y3⟩⟩, n', li', cr', T', ?_, w3, ?_⟩
    · rw [w8, hf.1 33 (by decide) (by decide)]; exact k1
    · rw [w8, hf.1 33 (by decide) (by decide)]; exact k2
    · rw [w8, hf.1 33 (by decide) (by decide)]; exact k3
    · rw [w7, hf.1 41 (by decide) (by decide)]; exact k4
    · rw [Q1]; exact w1
    · rw [Q3]; exact w5
  · obtain ⟨c', hc', hc12⟩ := hCR
    obtain ⟨t', z1, z2, z3, z4, z5⟩ := @rl_plate xs sl d' J t g b N h1 sa1 c1 D1 c' σ hw hM hc' hc12 _ rfl
    rw [lnS_F (fu' := fuW 2 (slV b N σ) h1 sa1 c1 D1 cr1) hF] at z2
    exact step_gen (t := t) (Q := fun _ => True) (RL := RLn xs sl d' J g 2) hw hC h8 (by decide) hK rfl ⟨t', z1, z2, z3, z4, fun _ _ => trivial⟩ (fun _ _ _ _ _ _ _ _ h => absurd h hF)
theorem step_all {b : Nat → Nat} {N so : Nat} {σ : TxS} (hso : so < 3) (hw : σ.1 = false) (hR : REL b N so σ s t) : STEP xs sl d d' J g b N so σ s t := by
  have k : so = 0 ∨ so = 1 ∨ so = 2 := by omega
  rcases k with rfl | rfl | rfl
  · exact step_town hw hR
  · exact step_days hw hR
  · exact step_plate hw hR
end TXZC
