/-! SOUNDNESS: calls, the whole machine -/
section MRUN
variable {p : Program} {l : Launch} {e : Env} {R : Room} {s : State} {m : MethodId} {args : Array Value} {below : List Frame} {meth : Method} {c : Code} {Q : State → Prop} {base : Nat} {sa : Nat → Nat} {D : va_G} {cA : Nat → ClassId} {xs : Nat → Int32} {sl d M cells slots pc : Nat} {L L' : mL} {st st' : List Value} {H H' : mH} {pc' : Nat}
theorem mchJ_0 {o idx M n p nest : Nat} (h : mchJ o (idx, 0, M, n, p, nest) = true) : (Cond.methodLink (mcn o) idx (mname M) ∈ lw_tbl.filter goodWord) ∧ 0 < M ∧ M < 293 ∧ mkd M = 0 ∧ mnar M = n ∧ (M = 292 ∨ plainName (mname M).cls = true) := by
  simp only [mchJ, show ¬ (0 : Nat) = 3 by decide, show ¬ (0 : Nat) = 4 by decide, show ¬ (0 : Nat) = 5 by decide, show ¬ (0 : Nat) = 6 by decide, if_false, Bool.and_eq_true, Bool.or_eq_true, decide_eq_true_eq] at h
  obtain ⟨⟨⟨⟨⟨⟨h1, -⟩, h2⟩, h3⟩, h4⟩, h5⟩, h6⟩ := h
  refine ⟨?_, h2, h3, h4, h5, h6⟩
  by_cases hn : nest = 0
  · rw [if_pos hn] at h1
    exact mw_mem h1
  · rw [if_neg hn] at h1
    simp at h1
theorem mchJ_1 {o idx M n p nest : Nat} (h : mchJ o (idx, 1, M, n, p, nest) = true) : ((nest = 0 → Cond.methodLink (mcn o) idx (mname M) ∈ lw_tbl.filter goodWord) ∧ (¬ nest = 0 → Cond.methodLinkNest (mcn o) idx (mname M) "BreadTalk" ∈ lw_tbl)) ∧ 0 < M ∧ M < 293 ∧ mkd M = 1 ∧ mnar M = n ∧ (M = 292 ∨ plainName (mname M).cls = true) := by
  simp only [mchJ, show ¬ (1 : Nat) = 3 by decide, show ¬ (1 : Nat) = 4 by decide, show ¬ (1 : Nat) = 5 by decide, show ¬ (1 : Nat) = 6 by decide, if_false, Bool.and_eq_true, Bool.or_eq_true, decide_eq_true_eq] at h
  obtain ⟨⟨⟨⟨⟨⟨h1, -⟩, h2⟩, h3⟩, h4⟩, h5⟩, h6⟩ := h
  refine ⟨?_, h2, h3, h4, h5, h6⟩
  refine ⟨fun hn => ?_, fun hn => ?_⟩
  · rw [if_pos hn] at h1
    exact mw_mem h1
  · rw [if_neg hn] at h1
    simp only [Bool.and_eq_true] at h1
    exact mwN_mem h1.1
theorem mchJ_2 {o idx M n p nest : Nat} (h : mchJ o (idx, 2, M, n, p, nest) = true) : ((nest = 0 → Cond.methodLink (mcn o) idx (mname M) ∈ lw_tbl.filter goodWord) ∧ (¬ nest = 0 → Cond.methodLinkNest (mcn o) idx (mname M) "BreadTalk" ∈ lw_tbl)) ∧ 0 < M ∧ M < 293 ∧ mkd M = 2 ∧ mnar M = n ∧ (M = 292 ∨ plainName (mname M).cls = true) := by
  simp only [mchJ, show ¬ (2 : Nat) = 3 by decide, show ¬ (2 : Nat) = 4 by decide, show ¬ (2 : Nat) = 5 by decide, show ¬ (2 : Nat) = 6 by decide, if_false, Bool.and_eq_true, Bool.or_eq_true, decide_eq_true_eq] at h
  obtain ⟨⟨⟨⟨⟨⟨h1, -⟩, h2⟩, h3⟩, h4⟩, h5⟩, h6⟩ := h
  refine ⟨?_, h2, h3, h4, h5, h6⟩
  refine ⟨fun hn => ?_, fun hn => ?_⟩
  · rw [if_pos hn] at h1
    exact mw_mem h1
  · rw [if_neg hn] at h1
    simp only [Bool.and_eq_true] at h1
    exact mwN_mem h1.1
theorem mV_ok {M : Nat} (h0 : 0 < M) (h : M < 293) : ((mname M).cls ≠ "java/lang/invoke/MethodHandle" ∧ (mname M).cls ≠ "java/lang/invoke/VarHandle" ∧ (parseMethodDescriptor (mname M).desc).map (fun d => d.parameters.length) = some (mnar M)) ∧ mmax M ≤ 40
    ∧ (mkd M = 0 → Cond.instanceMethod (mname M) ∈ lw_tbl.filter goodWord ∧ Cond.selects (mname M).cls (mname M) (mname M) ∈ lw_tbl.filter goodWord ∧ Cond.initialized (mname M).cls ∈ lw_tbl.filter goodWord)
    ∧ (mkd M = 1 → Cond.static (mname M) ∈ lw_tbl.filter goodWord ∧ Cond.initialized (mname M).cls ∈ lw_tbl.filter goodWord)
    ∧ (mkd M = 2 → Cond.instanceMethod (mname M) ∈ lw_tbl.filter goodWord ∧ (mname M).name = "<init>" ∧ mret M = none ∧ (M = 292 ∨ Cond.initialized (mname M).cls ∈ lw_tbl.filter goodWord)) := by
  have h1 := mokV M h0 h
  simp only [mchV, Bool.and_eq_true, decide_eq_true_eq] at h1
  obtain ⟨⟨⟨⟨h2, h3⟩, -⟩, h4⟩, h5⟩ := h1
  refine ⟨⟨h2.1, h2.2, h3⟩, h4, fun e => ?_, fun e => ?_, fun e => ?_⟩
  · rw [if_pos e] at h5
    simp only [Bool.and_eq_true] at h5
    exact ⟨mw_mem h5.1.1, mw_mem h5.1.2, mw_mem h5.2⟩
  · rw [if_neg (by omega), if_pos e] at h5
    simp only [Bool.and_eq_true] at h5
    exact ⟨mw_mem h5.1, mw_mem h5.2⟩
  · rw [if_neg (by omega), if_neg (by omega)] at h5
    simp only [Bool.and_eq_true, Bool.or_eq_true, decide_eq_true_eq] at h5
    exact ⟨mw_mem h5.1.1.1, h5.1.1.2, h5.1.2, h5.2.imp id mw_mem⟩
theorem mgood {ws : List Cond} (h : ∀ w ∈ ws, w ∈ lw_tbl.filter goodWord) : GoodIn (lw_tbl.filter goodWord) ws := fun w hw => ⟨h w hw, good_of_word (List.mem_filter.mp (h w hw)).2⟩
theorem mWS_in {M : Nat} (h0 : 0 < M) (h : M < 293) : ∀ w ∈ mWS M, w ∈ lw_tbl.filter goodWord := by
  intro w hw
  rcases List.mem_cons.mp hw with rfl | hw
  · exact (mM_ok h0 h).1
  · exact hw
theorem mobj {n d : Nat} {v : Option Value} {Lx : mL} {H1 : mH} (h : go xs sl n d 292 0 Lx [] H = some (v, H1)) : v = none ∧ H1 = H := by
  cases n with
  | zero => cases h
  | succ n =>
    have e1 : mop 292 0 = some .return_ := by decide +kernel
    have e2 : mret 292 = none := by decide +kernel
    have e3 : mstep xs sl d 292 .return_ 0 Lx [] H = some (.inr (.inl none)) := by
      show mretn 292 [] = _
      simp only [mretn, e2]
    unfold go at h
    rw [e1] at h
    dsimp only at h
    rw [e3] at h
    cases h
    exact ⟨rfl, rfl⟩
theorem mokO : lw_tbl.all (fun w => match w with
  | .methodLinkNest _ _ y _ => !decide (y.cls = "java/lang/Object")
  | _ => true) = true := by decide +kernel
theorem mobj_name : mname 292 = Lib.objectInit := by decide +kernel
theorem mrest (v : Option Value) (r : List Value) : (v.toList ++ r).map (rv base sa) = (v.map (rv base sa)).toList ++ r.map (rv base sa) := by cases v <;> rfl
theorem mcall_snd {n0 d' want idx M' : Nat} {as r : List Value} {v : Option Value} {H1 : mH} (F : mF p s m args meth c M base sa D cA xs sl (d' + 1) R) (hw3 : want < 3) (hd : (want = 0 → decode (mbytes M) pc = .ok (.invokevirtual idx, 3)) ∧ (want = 1 → decode (mbytes M) pc = .ok (.invokestatic idx, 3)) ∧ (want = 2 → decode (mbytes M) pc = .ok (.invokespecial idx, 3)))
    (h : minv want (d' + 1) M pc idx L st H = some (.inr (.inr (M', as, r)))) (hgo : go xs sl n0 d' M' 0 (ment M' as) [] H = some (v, H1))
    (hmet : 0 < M' → M' < 293 → M' ≠ 292 → plainName (mname M').cls = true → (mlay as).length ≤ mmax M' → Met l (mname M') (mWS M') (mrm d' H H1) (mPc base sa D cA H as) (mQc base sa D cA v H1) (H1.2.1 - H.2.1) (H1.2.2 - H.2.2) (fun q => base ≤ q))
    (hc : cells + (H1.2.1 - H.2.1) ≤ R.cells) (hsl : slots + (H1.2.2 - H.2.2) ≤ R.slots) (kk : mG p l e R s m args below meth c Q base sa D cA M (cells + (H1.2.1 - H.2.1)) (slots + (H1.2.2 - H.2.2)) (pc + 3) L (v.toList ++ r) H1) : mG p l e R s m args below meth c Q base sa D cA M cells slots pc L st H := by
  obtain ⟨hx, hb, hml, hown, hnm, hts, hK, hbs, hfr, hlo, -, hSt⟩ := F
  unfold minv at h
  split at h
  · rename_i k M2 n hiv
    obtain ⟨pl, nest, hch⟩ := mInv_ok hiv
    split at h
    · cases h
    · rename_i hk
      split at h
      · split at h
        · rename_i a as2 r2 hpop
          split at h
          · rename_i q hq
            split at h
            · rename_i hcond
              cases h
              obtain ⟨hlink, g0, g1, g2, g3, g4⟩ := mchJ_0 hch
              obtain ⟨hv1, hv2, hv3, -, -⟩ := mV_ok g0 g1
              obtain ⟨w1, w2, w3⟩ := hv3 g2
              have hM : M' ≠ 292 := by rintro rfl; exact absurd g2 (by decide +kernel)
              have hmet := hmet g0 g1 hM (g4.resolve_left hM) hcond.2.2
              have hw : want = 0 := by omega
              obtain ⟨e1, e2⟩ := mpop_ok hpop
              obtain ⟨hcl, hci⟩ := mcls_ok g1 hcond.1
              intro ls Hr locs hl hn hW hS
              have hrecv := va_recv hK.1 (mP_obj hW (show H.1 a = some (.inl (q.1, q.2)) from hq) hci) (mfC_at hci) (q0 := 0) rfl
              rw [hcl] at hrecv
              refine mcall (va_runV (C := (mname M').cls) (As := as2.map (rv base sa)) (b := base + a) (rest := r.map (rv base sa)) ⟨hx, hb, hml, hown, hts⟩ hmet (cwV (mnar M') hts (mgood (fun w hw9 => ?_)) rfl rfl rfl ⟨rfl, hv1.1, hv1.2.1, hv1.2.2⟩ ⟨hfr, ?_⟩) ⟨mPc_blind, hrecv, fun U hU hWm => ⟨rfl, by rw [hU]; exact hW, hK.warm hWm, by rw [hU]; exact Nat.le_trans hbs hS.1, hSt.go hWm hU hS⟩⟩ rfl ?_ hl.1 ?_ (lv_room (by rw [rv_map_cat]; exact hcond.2.1)) (hd.1 hw) ⟨hc, hsl⟩) hS (fun H2 locs2 hW2 hS2 => ?_)
              · unfold wsV at hw9
                rcases List.mem_append.mp hw9 with h9 | h9
                · simp only [List.mem_cons, List.not_mem_nil, or_false] at h9
                  rcases h9 with rfl | rfl | rfl | rfl
                  · exact hlink
                  · exact w1
                  · exact w2
                  · exact w3
                · exact mWS_in g0 g1 w h9
              · show 8 + (mmax M' + 11) + 64 * d' ≤ R.locals
                omega
              · rw [List.length_map]
                simp only [List.length_cons] at e2
                omega
              · show st.map (rv base sa) = _
                rw [e1]
                simp [rv]
              · have k9 := kk ls H2 locs2 hl hn hW2 hS2
                rw [mrest] at k9
                exact k9
            · cases h
          · cases h
        · cases h
      · split at h
        · rename_i as2 r2 hpop
          split at h
          · rename_i hcond
            cases h
            obtain ⟨hlink, g0, g1, g2, g3, g4⟩ := mchJ_1 hch
            obtain ⟨hv1, hv2, -, hv3, -⟩ := mV_ok g0 g1
            obtain ⟨w1, w2⟩ := hv3 g2
            have hM : M' ≠ 292 := by rintro rfl; exact absurd g2 (by decide +kernel)
            have hmet := hmet g0 g1 hM (g4.resolve_left hM) hcond.2
            have hw : want = 1 := by omega
            obtain ⟨e1, e2⟩ := mpop_ok hpop
            intro ls Hr locs hl hn hW hS
            have hloc : 8 + (mmax M' + 11) + (mrm d' H H1).locals ≤ R.locals := by
              show 8 + (mmax M' + 11) + 64 * d' ≤ R.locals
              omega
            have hst : (F0 m pc ls (st.map (rv base sa))).stack = (as.map (rv base sa)).reverse ++ r.map (rv base sa) := by
              show st.map (rv base sa) = _
              rw [e1]
              simp
            have hpre : PreS s Hr (mPc base sa D cA H as) (as.map (rv base sa)) := ⟨mPc_blind, fun U hU hWm => ⟨rfl, by rw [hU]; exact hW, hK.warm hWm, by rw [hU]; exact Nat.le_trans hbs hS.1, hSt.go hWm hU hS⟩⟩
            have fin : ∀ (H2 : Heap) (locs2 : List Loc), mW base sa D cA H1 H2 → va_S (fun q => base ≤ q) s.heap H2 locs2 → W p l e R s m args below meth c H2 locs2 (cells + (H1.2.1 - H.2.1)) (slots + (H1.2.2 - H.2.2)) Q (F0 m (pc + 3) ls ((v.map (rv base sa)).toList ++ r.map (rv base sa))) := fun H2 locs2 hW2 hS2 => by
              have k9 := kk ls H2 locs2 hl hn hW2 hS2
              rw [mrest] at k9
              exact k9
            by_cases hne : nest = 0
            · refine mcall (va_runS (As := as.map (rv base sa)) (rest := r.map (rv base sa)) ⟨hx, hb, hml, hown, hts⟩ hmet (va_cwS (mnar M') hts (mgood (fun w hw9 => ?_)) rfl rfl rfl hv1 ⟨hfr, hloc⟩) hpre rfl (by rw [List.length_map]; omega) hl.1 hst (lv_room (by rw [rv_map_cat]; exact hcond.1)) (hd.2.1 hw) ⟨hc, hsl⟩) hS fin
              unfold va_wsS at hw9
              rcases List.mem_append.mp hw9 with h9 | h9
              · simp only [List.mem_cons, List.not_mem_nil, or_false] at h9
                rcases h9 with rfl | rfl | rfl
                · exact hlink.1 hne
                · exact w1
                · exact w2
              · exact mWS_in g0 g1 w h9
            · exact mcall (va_runSN (As := as.map (rv base sa)) (rest := r.map (rv base sa)) ⟨hx, hb, hml, hown, hts⟩ hmet ⟨va_cnB (mnar M') hts (mgood (mWS_in g0 g1)) rfl rfl rfl (hK.2.1 _ (hlink.2 hne) rfl) (hts _ w2) hv1 ⟨hfr, hloc⟩, hts _ w1, trivial⟩ hpre rfl (by rw [List.length_map]; omega) hl.1 hst (lv_room (by rw [rv_map_cat]; exact hcond.1)) (hd.2.1 hw) ⟨hc, hsl⟩) hS fin
          · cases h
        · cases h
      · split at h
        · rename_i a as2 r2 hpop
          split at h
          · rename_i hcond
            cases h
            obtain ⟨hlink, g0, g1, g2, g3, g4⟩ := mchJ_2 hch
            obtain ⟨hv1, hv2, -, -, hv3⟩ := mV_ok g0 g1
            obtain ⟨w1, wn, wr, w2⟩ := hv3 g2
            have hw : want = 2 := by omega
            obtain ⟨e1, e2⟩ := mpop_ok hpop
            intro ls Hr locs hl hn hW hS
            have hst : (F0 m pc ls (st.map (rv base sa))).stack = (as2.map (rv base sa)).reverse ++ .ref (base + a) :: r.map (rv base sa) := by
              show st.map (rv base sa) = _
              rw [e1]
              simp [rv]
            have fin : ∀ (H2 : Heap) (locs2 : List Loc), mW base sa D cA H1 H2 → va_S (fun q => base ≤ q) s.heap H2 locs2 → W p l e R s m args below meth c H2 locs2 (cells + (H1.2.1 - H.2.1)) (slots + (H1.2.2 - H.2.2)) Q (F0 m (pc + 3) ls ((v.map (rv base sa)).toList ++ r.map (rv base sa))) := fun H2 locs2 hW2 hS2 => by
              have k9 := kk ls H2 locs2 hl hn hW2 hS2
              rw [mrest] at k9
              exact k9
            by_cases hM : M' = 292
            · subst hM
              obtain ⟨rfl, rfl⟩ := mobj hgo
              have hn0 : n = 0 := by rw [← g3]; decide +kernel
              subst hn0
              have has : as2 = [] := by
                simp only [List.length_cons] at e2
                exact List.eq_nil_of_length_eq_zero (by omega)
              subst has
              have hm : ∀ w ∈ ([.static Lib.Math.max.name, .static Lib.Math.min.name, .static Lib.Math.abs.name, .initialized "java/lang/Math", .code Lib.Math.max.name Lib.Math.max.code 2 (some .int), .code Lib.Math.min.name Lib.Math.min.code 2 (some .int), .code Lib.Math.abs.name Lib.Math.abs.code 1 (some .int), .native arraycopyName, .static arraycopyName, .initialized "java/lang/System", .instanceMethod Lib.objectInit, .code Lib.objectInit ⟨#[0xb1]⟩ 1 none] : List Cond), w ∈ lw_tbl.filter goodWord := fun w hw => mmem_ok (List.all_eq_true.mp mokX w hw)
              have hne : nest = 0 := Classical.byContradiction (fun q => absurd (List.all_eq_true.mp mokO _ (hlink.2 q)) (by simp [mobj_name, Lib.objectInit]))
              have hlk := hlink.1 hne
              rw [mobj_name] at hlk
              have f9 := fin Hr locs hW hS
              rw [Nat.sub_self, Nat.sub_self] at f9
              exact W.objInit (a := base + a) (rest := r.map (rv base sa)) hx hb hown (hts _ hlk) (hts _ (hm _ (List.mem_of_getElem? (i := 10) rfl))) (hts _ (hm _ (List.mem_of_getElem? (i := 11) rfl))) rfl (by rw [hml]; exact hl.1) hst (hd.2.2 hw) (by omega) (by show 2 * 0 + _ + 12 ≤ _; rw [rv_map_cat]; omega) f9
            · have hmet := hmet g0 g1 hM (g4.resolve_left hM) hcond.2
              have hloc : 8 + (mmax M' + 11) + (mrm d' H H1).locals ≤ R.locals := by
                show 8 + (mmax M' + 11) + 64 * d' ≤ R.locals
                omega
              have hpre : PreS s Hr (mPc base sa D cA H (.ref a :: as2)) (.ref (base + a) :: as2.map (rv base sa)) := ⟨mPc_blind, fun U hU hWm => ⟨rfl, by rw [hU]; exact hW, hK.warm hWm, by rw [hU]; exact Nat.le_trans hbs hS.1, hSt.go hWm hU hS⟩⟩
              have hlen : (as2.map (rv base sa)).length = mnar M' := by
                rw [List.length_map]
                simp only [List.length_cons] at e2
                omega
              have hws : mWS M' = Cond.code (mname M') (mbytes M') (mmax M') none :: lw_tbl.filter goodWord := by rw [mWS, wr]
              by_cases hne : nest = 0
              · exact mcall (va_runI (As := as2.map (rv base sa)) (b := base + a) (rest := r.map (rv base sa)) ⟨hx, hb, hml, hown, hts⟩ hmet (cwI (mnar M') hts (mgood (mWS_in g0 g1)) hws rfl rfl (hts _ (w2.resolve_left hM)) (hts _ (hlink.1 hne)) (hts _ w1) wn hv1 ⟨hfr, hloc⟩) hpre rfl hlen hl.1 hst (lv_room (by rw [rv_map_cat]; exact hcond.1)) (hd.2.2 hw) ⟨hc, hsl⟩) hS fin
              · exact mcall (va_runIN (As := as2.map (rv base sa)) (b := base + a) (rest := r.map (rv base sa)) ⟨hx, hb, hml, hown, hts⟩ hmet ⟨va_cnB (mnar M') hts (mgood (mWS_in g0 g1)) hws rfl rfl (hK.2.1 _ (hlink.2 hne) rfl) (hts _ (w2.resolve_left hM)) hv1 ⟨hfr, hloc⟩, wn, hts _ w1⟩ hpre rfl hlen hl.1 hst (lv_room (by rw [rv_map_cat]; exact hcond.1)) (hd.2.2 hw) ⟨hc, hsl⟩) hS fin
          · cases h
        · cases h
      · simp only [mcopy, nx] at h
        repeat' split at h
        all_goals cases h
      · simp only [mmath, nx] at h
        repeat' split at h
        all_goals cases h
  · simp only [mstr, nx] at h
    repeat' split at h
    all_goals cases h
end MRUN
