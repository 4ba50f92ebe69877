/-! TEXT: a line, read by both -/
section TXZB
variable {xs : Nat → Int32} {sl d : Nat} {J : hJk} {s t x y : hS} {g : hG}
theorem nuS_p {b : Nat → Nat} {N : Nat} {ok : Bool} {σ : TxS} (hN : σ.2.1 ≤ N) (h : (nuS b N ok σ).1 = false) : σ.2.1 < (nuS b N ok σ).2.1 := by
  cases c : σ.1
  case true => rw [nuS_w c, c] at h; cases h
  case false =>
  have c' : ¬ σ.1 = true := by rw [c]; decide
  unfold nuS at h ⊢
  rw [if_neg c'] at h ⊢
  by_cases k : kQ b N (rn isBl b N σ.2.1) = 1
  · rw [if_pos k]
    have e := (eQ_gt (b := b) (N := N) (q := rn isBl b N σ.2.1) (Or.inl k)).1
    have r := (rn_prop (P := isBl) (b := b) (N := N) (N - σ.2.1) σ.2.1 (by omega)).1
    show σ.2.1 < eQ b N (rn isBl b N σ.2.1)
    omega
  · rw [if_neg k] at h; cases h
theorem woS_p {b : Nat → Nat} {N : Nat} {ok : Bool} {σ : TxS} (hN : σ.2.1 ≤ N) (h : (woS b N ok σ).1 = false) : σ.2.1 < (woS b N ok σ).2.1 := by
  cases c : σ.1
  case true => rw [woS_w c, c] at h; cases h
  case false =>
  have c' : ¬ σ.1 = true := by rw [c]; decide
  unfold woS at h ⊢
  rw [if_neg c'] at h ⊢
  by_cases k : kQ b N (rn isBl b N σ.2.1) = 3 ∧ ok = true
  · rw [if_pos k]
    have e := (eQ_gt (b := b) (N := N) (q := rn isBl b N σ.2.1) (Or.inr (Or.inr k.1))).1
    have r := (rn_prop (P := isBl) (b := b) (N := N) (N - σ.2.1) σ.2.1 (by omega)).1
    show σ.2.1 < eQ b N (rn isBl b N σ.2.1)
    omega
  · rw [if_neg k] at h; cases h
theorem smS_p {b : Nat → Nat} {N : Nat} {σ : TxS} (hN : σ.2.1 ≤ N) (h : (smS b N σ).1 = false) : σ.2.1 < (smS b N σ).2.1 := by
  cases c : σ.1
  case true => rw [seS_w c, c] at h; cases h
  case false =>
  have c' : ¬ σ.1 = true := by rw [c]; decide
  unfold smS at h ⊢
  rw [if_neg c'] at h ⊢
  by_cases k : kQ b N (rn isBl b N σ.2.1) = 2
  · rw [if_pos k]
    have e := (eQ_gt (b := b) (N := N) (q := rn isBl b N σ.2.1) (Or.inr (Or.inl k))).1
    have r := (rn_prop (P := isBl) (b := b) (N := N) (N - σ.2.1) σ.2.1 (by omega)).1
    show σ.2.1 < eQ b N (rn isBl b N σ.2.1)
    omega
  · rw [if_neg k] at h; cases h
theorem slS_1 {b : Nat → Nat} {N c s0 : Nat} {σ : TxS} (h : (slS b N c s0 σ).1 = false) : σ.1 = false := by
  cases w : σ.1
  · rfl
  · rw [slS_w w, w] at h; cases h
theorem slS_N {b : Nat → Nat} {N c s0 : Nat} {σ : TxS} (hN : σ.2.1 ≤ N) : (slS b N c s0 σ).2.1 ≤ N := by
  have r := (rn_prop (P := isBl) (b := b) (N := N) (N - σ.2.1) σ.2.1 (by omega)).2.1
  unfold slS
  by_cases k : isWk c = true
  · rw [if_pos k]
    unfold woS
    by_cases w : σ.1 = true
    · rw [if_pos w]; exact hN
    · rw [if_neg w]
      by_cases q : kQ b N (rn isBl b N σ.2.1) = 3 ∧ okW c (slV b N σ) = true
      · rw [if_pos q]; exact (eQ_gt (b := b) (N := N) (q := rn isBl b N σ.2.1) (Or.inr (Or.inr q.1))).2
      · rw [if_neg q]; exact r
  · rw [if_neg k]
    unfold nuS
    by_cases w : σ.1 = true
    · rw [if_pos w]; exact hN
    · rw [if_neg w]
      by_cases q : kQ b N (rn isBl b N σ.2.1) = 1
      · rw [if_pos q]; exact (eQ_gt (b := b) (N := N) (q := rn isBl b N σ.2.1) (Or.inl q)).2
      · rw [if_neg q]; exact r
theorem stI_p {b : Nat → Nat} {N k : Nat} {σ : TxS} (hN : σ.2.1 ≤ N) : ∀ n, (stI b N k σ n).2.1 ≤ N ∧ ((stI b N k σ n).1 = false → σ.2.1 ≤ (stI b N k σ n).2.1) := by
  intro n
  induction n with
  | zero => exact ⟨hN, fun _ => Nat.le_refl _⟩
  | succ n ih =>
    refine ⟨slS_N ih.1, fun h => ?_⟩
    have h1 := ih.2 (slS_1 h)
    have h : (slS b N (shc k n) (slV b N σ) (stI b N k σ n)).1 = false := h
    show σ.2.1 ≤ (slS b N (shc k n) (slV b N σ) (stI b N k σ n)).2.1
    unfold slS at h ⊢
    by_cases c : isWk (shc k n) = true
    · rw [if_pos c] at h ⊢
      have := woS_p ih.1 h
      omega
    · rw [if_neg c] at h ⊢
      have := nuS_p ih.1 h
      omega
theorem lnS_p {b : Nat → Nat} {N so : Nat} {fu : Bool} {σ : TxS} (hN : σ.2.1 ≤ N) (h : (lnS b N so fu σ).1 = false) : σ.2.1 < (lnS b N so fu σ).2.1 := by
  unfold lnS at h ⊢
  by_cases c : kQ b N (rn isBl b N σ.2.1) = 3 ∧ bgW so (slV b N σ) = true
  · rw [if_pos c] at h ⊢
    obtain ⟨e1, e2⟩ := eQ_gt (b := b) (N := N) (q := rn isBl b N σ.2.1) (Or.inr (Or.inr c.1))
    have r := (rn_prop (P := isBl) (b := b) (N := N) (N - σ.2.1) σ.2.1 (by omega)).1
    have hB : (lnB b N fu σ).2.1 ≤ N := e2
    have q := stI_p (b := b) (k := shW (slV b N σ)) hB (shL (shW (slV b N σ))).length
    have w := (seS_ok h).1
    have q2 := q.2 w
    have q3 : (lnI b N fu σ (shL (shW (slV b N σ))).length).2.1 < (smS b N (lnI b N fu σ (shL (shW (slV b N σ))).length)).2.1 := smS_p q.1 h
    have q2 : eQ b N (rn isBl b N σ.2.1) ≤ (lnI b N fu σ (shL (shW (slV b N σ))).length).2.1 := q2
    omega
  · rw [if_neg c] at h; cases h
theorem lnS_F {b : Nat → Nat} {N so : Nat} {fu fu' : Bool} {σ : TxS} (h : σ.2.2.1 ≠ 0) : lnS b N so fu σ = lnS b N so fu' σ := by
  obtain ⟨w, p, F, P⟩ := σ
  have h : F ≠ 0 := h
  have e : ∀ f, lnB b N f (w, p, F, P) = (false, eQ b N (rn isBl b N p), F, P) := by
    intro f
    rw [lnB_eq]
    unfold fpS
    rw [if_neg (fun q => h q.2)]
  unfold lnS lnI
  rw [e fu, e fu']
def CRr (so : Nat) (t : hS) : Prop := if so = 0 then ∃ h sa c, CR t h sa c else if so = 1 then ∃ D, t 84 0 = nI D ∧ D ≤ 40 else ∃ c, t 84 2 = nI c ∧ c ≤ 12
def DRr (so : Nat) (s t : hS) : Prop := if so = 0 then ∃ n li h sa c G T, TownW s (t 84) n li h sa c G T ∧ s 32 13 = nI G - 1 ∧ t 81 9 = nI G - 1 ∧ s 32 14 = nI T - 1 ∧ t 81 10 = nI T - 1 else if so = 1 then ∃ D, DaysQ s (t 84) 41 0 D else ∃ n li c T, PlateW s (t 84) n li c T ∧ s 32 14 = nI T - 1 ∧ t 81 10 = nI T - 1
def REL (b : Nat → Nat) (N so : Nat) (σ : TxS) (s t : hS) : Prop := CM b N σ s ∧ RM b N σ t ∧ s 32 8 = nI so ∧ (∃ h sa c D cr, CNT s h sa c D cr) ∧ CRr so t ∧ (σ.2.2.1 = 0 → DRr so s t)
def XF (s s' : hS) : Prop := (∀ c, c < 32 ∨ 45 < c → s' c = s c)
theorem CM_KF {b : Nat → Nat} {N : Nat} {σ : TxS} (h : CM b N σ s) (hk : KF s x) : CM b N σ x := by
  obtain ⟨h1, h2, h3, h4⟩ := h
  unfold CM
  rw [hk.2 11 (by decide) (by decide), hk.2 9 (by decide) (by decide), hk.2 3 (by decide) (by decide), hk.2 4 (by decide) (by decide)]
  exact ⟨tpC_fr h1 (hk.2 6 (by decide) (by decide)) (hk.2 7 (by decide) (by decide)) (hk.1 6 (by decide)), h2, h3, h4⟩
theorem step_gen {b : Nat → Nat} {N so h sa c D cr : Nat} {σ : TxS} {fu : Bool} {Q : hS → Prop} {RL : hS → hS → Prop} (hw : σ.1 = false) (hC : CM b N σ s) (h8 : s 32 8 = nI so) (hso : so < 3) (hK : CNT s h sa c D cr) (hfu : fu = fuW so (slV b N σ) h sa c D cr) (href : ∃ t' : hS, RL t t' ∧ RM b N (lnS b N so fu σ) t' ∧ LF t t' ∧ CRr so t' ∧ ((lnS b N so fu σ).1 = false → (lnS b N so fu σ).2.2.1 = 0 → Q t')) (hkeep : ∀ t' s3 : hS, Q t' → CF s s3 → slV b N σ < 22 → bgW so (slV b N σ) = true → (∀ j, j < (shL (shW (slV b N σ))).length → s3 45 j = nI (slV b N (lnI b N fu σ j)) ∧ okSl (shc (shW (slV b N σ)) j) (slV b N (lnI b N fu σ 0)) (slV b N (lnI b N fu σ j))) → fu = false → σ.2.2.1 = 0 → ∃ s4 : hS, Runs xs sl (d+4+1+1) 102 0 [some (.ref (32)), some (.int ( nI (slV b N σ)))] [] (hp J (s3) g) (none, hp J s4 g) ∧ KF s3 s4 ∧ (∃ h sa c D cr, CNT s4 h sa c D cr) ∧ DRr so s4 t') : ∃ (σ' : TxS) (s1 s4 t' : hS), Runs xs sl (d+4+1+1+1) 88 0 [some (.ref (32))] [] (hp J (s) g) (none, hp J s1 g) ∧ TKC b N (rn isBl b N σ.2.1) s s1 ∧ Runs xs sl (d+4+1+1+1) 94 0 [some (.ref (32)), none, none, none] [] (hp J (s1) g) (some (.int (bI (!σ'.1))), hp J s4 g) ∧ RL t t' ∧ CM b N σ' s4 ∧ RM b N σ' t' ∧ XF s s4 ∧ LF t t' ∧ (σ'.1 = false → REL b N so σ' s4 t' ∧ σ.2.1 < σ'.2.1) := by
  obtain ⟨s1, s3, c1, c2, c3, c4, c5, c6⟩ := @cl_readLine xs sl d J s g b N so h sa c D cr σ hw hC h8 hso hK fu hfu
  obtain ⟨t', r1, r2, r3, r4, r5⟩ := href
  have hp := @lnS_p b N so fu σ hC.2.1
  have xf : XF s s3 := fun c hc => c4.1 c (by omega) (by omega)
  have h83 : s3 32 8 = nI so := (c4.2 8 (by omega)).trans h8
  have cnt3 : CNT s3 h sa c D cr := by
    unfold CNT
    rw [c4.1 33 (by decide) (by decide), c4.1 41 (by decide) (by decide), c4.1 43 (by decide) (by decide)]
    exact hK
  have eln : (lnS b N so fu σ).1 = false → lnS b N so fu σ = smS b N (lnI b N fu σ (shL (shW (slV b N σ))).length) := fun h => (c6 h).1.2.2.2
  generalize hσ' : lnS b N so fu σ = σ' at *
  cases hw' : σ'.1
  case true =>
    exact ⟨σ', s1, s3, t', c1, c2, by rw [hw']; exact c5 hw', r1, c3, r2, xf, r3, fun h => by rw [hw'] at h; cases h⟩
  case false =>
  obtain ⟨⟨k1, k2, k3, k4⟩, k5, k6, k7⟩ := c6 hw'
  by_cases hF : σ'.2.2.1 = 0
  · have e := eln hw'
    have hw2 : (smS b N (lnI b N fu σ (shL (shW (slV b N σ))).length)).1 = false := by rw [← e]; exact hw'
    obtain ⟨w1, F1⟩ := seS_ok hw2
    have hF2 : (lnI b N fu σ (shL (shW (slV b N σ))).length).2.2.1 = 0 := by rw [← F1, ← e]; exact hF
    obtain ⟨-, F0, ok⟩ := stI_good (k := shW (slV b N σ)) _ w1 hF2
    have fF : fu = false ∧ σ.2.2.1 = 0 := by
      obtain ⟨w, p, F, P⟩ := σ
      rw [lnB_eq] at F0
      have := fpS_0 F0
      exact ⟨this.1, this.2.1⟩
    obtain ⟨s4, g1, g2, g3, g4⟩ := hkeep t' s3 (r5 hw' hF) c4 k3 k2 (fun j hj => ⟨(k5 j hj).1, ok j hj⟩) fF.1 fF.2
    refine ⟨σ', s1, s4, t', c1, c2, by rw [hw']; exact k7 hF s4 g1, r1, CM_KF c3 g2, r2, fun c hc => (g2.1 c (by omega)).trans (xf c hc), r3, fun _ => ⟨⟨CM_KF c3 g2, r2, (g2.2 8 (by decide) (by decide)).trans h83, g3, r4, fun _ => g4⟩, hp hw'⟩⟩
  · exact ⟨σ', s1, s3, t', c1, c2, by rw [hw']; exact k6 hF, r1, c3, r2, xf, r3, fun _ => ⟨⟨c3, r2, h83, ⟨h, sa, c, D, cr, cnt3⟩, r4, fun h => absurd h hF⟩, hp hw'⟩⟩
end TXZB
