/-! SOUNDNESS, the instructions of the heap -/
section MHEAP
variable {p : Program} {l : Launch} {e : Env} {R : Room} {s : State} {m : MethodId} {args : Array Value} {below : List Frame} {meth : Method} {c : Code} {Q : State → Prop} {base : Nat} {sa : Nat → Nat} {D : va_G} {cA : Nat → ClassId} {xs : Nat → Int32} {sl d M cells slots pc : Nat} {L L' : mL} {st st' : List Value} {H H' : mH} {pc' : Nat}
def mfs (base : Nat) (sa : Nat → Nat) (ci : Nat) (F : Nat → Value) : List Value := (List.range (mfC ci).2.2).map (fun j => rv base sa (F j))
theorem mfs_at {ci k : Nat} {F : Nat → Value} (hk : k < (mfC ci).2.2) : (mfs base sa ci F)[k]? = some (rv base sa (F k)) := by
  rw [mfs, List.getElem?_map, List.getElem?_range hk]
  rfl
theorem mfs_V {ci k : Nat} {F : Nat → Value} (hk : k < (mfC ci).2.2) : vp_V (mfs base sa ci F) k = rv base sa (F k) := by
  rw [vp_V, List.getD_eq_getElem?_getD, mfs_at hk]
  rfl
theorem mP_one {q : Nat × va_E} {Hr : Heap} (h : va_at D mcl q Hr) : va_P D mcl [q] Hr := by
  intro k x hx
  cases k with
  | zero =>
    cases hx
    exact h
  | succ k => simp at hx
theorem mP_obj {Hr : Heap} {a ci : Nat} {F : Nat → Value} (hW : mW base sa D cA H Hr) (hq : H.1 a = some (.inl (ci, F))) (hci : ci < 11) : va_P D mcl [(base + a, .inr (ci, mfs base sa ci F))] Hr := by
  obtain ⟨r, hr, hob⟩ := (hW.2 a _ hq).2
  have e : r = mfC ci := Option.some.inj (hr.symm.trans (mfC_at hci))
  subst e
  exact mP_one ⟨_, hr, hob.to (fun k hk => (mfs_V hk).symm)⟩
theorem mfit_ok {ty : FieldType} {v : Value} (h : mfit ty v = true) : narrow ty (rv base sa v) = rv base sa v ∧ fits ty (rv base sa v) = true := by
  cases ty <;> cases v <;> first | exact ⟨rfl, rfl⟩ | (exfalso; simp [mfit] at h; done) | skip
  rename_i x
  simp only [mfit, Bool.or_eq_true, beq_iff_eq] at h
  rcases h with rfl | rfl
  · exact ⟨show narrow FieldType.boolean (Value.int 0) = Value.int 0 by decide, show fits FieldType.boolean (Value.int 0) = true by decide⟩
  · exact ⟨show narrow FieldType.boolean (Value.int 1) = Value.int 1 by decide, show fits FieldType.boolean (Value.int 1) = true by decide⟩
theorem ms_getf {idx : Nat} (F : mF p s m args meth c M base sa D cA xs sl d R) (hd : decode (mbytes M) pc = .ok (.getfield idx, 3)) (h : mgetf M pc idx L st H = some (.inl (pc', L', st', H'))) : H'.2 = H.2 ∧ (mG p l e R s m args below meth c Q base sa D cA M cells slots pc' L' st' H' → mG p l e R s m args below meth c Q base sa D cA M cells slots pc L st H) := by
  unfold mgetf at h
  split at h
  · rename_i a r
    split at h
    · rename_i q hq
      split at h
      · rename_i ci k hf
        split at h
        · rename_i hci
          cases h
          refine ⟨rfl, fun kk ls Hr locs hl hn hW hS => ?_⟩
          obtain ⟨q1, q2⟩ := q
          dsimp only at hci kk
          subst hci
          obtain ⟨hlink, hci2, hk, hsame⟩ := mFld_ok hf
          obtain ⟨hx, hb, hml, hown, hnm, hts, hK, hrest⟩ := F
          obtain ⟨hin, -, -, hty, hnn⟩ := mK_ok hci2
          exact va_get (D := D) (cl := mcl) (tys := mtys cA) (C := (mfC q1).1) (T := (mfC q1).2.1) (N := (mfC q1).2.2) hx hb hts hin hown hK.1 (mP_obj hW hq hci2) 0 rfl (mfC_at hci2) k hk (hts _ hlink) (fun _ h9 => by rw [hsame] at h9; exact h9) (mfs_at hk) hd (kk ls Hr locs hl hn hW hS)
        · cases h
      · cases h
    · cases h
  · cases h
theorem ms_putf {idx : Nat} (F : mF p s m args meth c M base sa D cA xs sl d R) (hd : decode (mbytes M) pc = .ok (.putfield idx, 3)) (hM : mcn (mown M) = (mname M).cls) (h : mputf M pc idx L st H = some (.inl (pc', L', st', H'))) : H'.2 = H.2 ∧ (mG p l e R s m args below meth c Q base sa D cA M cells slots pc' L' st' H' → mG p l e R s m args below meth c Q base sa D cA M cells slots pc L st H) := by
  unfold mputf at h
  split at h
  · rename_i v a r
    split at h
    · rename_i q hq
      split at h
      · rename_i ci k hf
        split at h
        · rename_i hci
          cases h
          refine ⟨rfl, fun kk ls Hr locs hl hn hW hS => ?_⟩
          obtain ⟨ci1, F1⟩ := q
          obtain ⟨hc1, hfit, hput⟩ := hci
          dsimp only at hc1 kk
          subst hc1
          obtain ⟨hlink, hci2, hk, hsame⟩ := mFld_ok hf
          obtain ⟨hx, hb, hml, hown, hnm, hts, hK, hrest⟩ := F
          obtain ⟨hin, -, -, hty, hnn⟩ := mK_ok hci2
          have hc : mcl[ci1]? = some ((mfC ci1).1, (mfC ci1).2.1, (mfC ci1).2.2) := mfC_at hci2
          have hap := va_apart (own := mcn (mown M)) hts hin (mTy ci1) hty hnn hK.1 hc
          obtain ⟨r0, h1, cell, q1, q2, q3, q4⟩ := (hW.2 a _ hq).2
          have er : r0 = ((mfC ci1).1, (mfC ci1).2.1, (mfC ci1).2.2) := Option.some.inj (h1.symm.trans hc)
          subst er
          obtain ⟨hSl, hfc, kC, hkC, hkind⟩ := hK.1.1 ci1 _ hc
          obtain ⟨cf, kf, fi, f, hi, hsl⟩ := hSl k hk
          have hlay := hts _ (hin _ (u_in_lay hk))
          unfold u_lay at hlay
          have hst := (u_facts hfc hkC (u_lays hts hin hk) hi).1
          obtain ⟨hn1, hf1⟩ := mfit_ok (base := base) (sa := sa) hfit
          have fin : ∀ (H1 : Heap) (loc : Loc), loc.base = base + a → H1[base + a]? = some (cell.setSlot f.slot (rv base sa v)) → H1.size = Hr.size → (∀ q, q ≠ base + a → H1[q]? = Hr[q]?) → W p l e R s m args below meth c H1 (locs ++ [loc]) cells slots Q (F0 m (pc + 3) ls (st'.map (rv base sa))) := by
            intro H1 loc hloc e1 e2 e3
            obtain ⟨lb, lk⟩ := loc
            dsimp only at hloc
            subst hloc
            rw [hsl] at e1
            refine kk ls H1 _ hl hn (hW.put hq e2 e3 ?_) (hS.put e2 e3 (by show base ≤ base + a; omega))
            refine ⟨_, hc, t_OB.to (V := updV (fun j => rv base sa (F1 j)) k (rv base sa v)) ⟨_, e1, q2, q3, t_set q4 hap hk (rv base sa v)⟩ (fun j _ => ?_)⟩
            simp only [updV, va_up]
            split <;> rfl
          cases hfi : ((mfC ci1).2.1 k).2.2.2 with
          | false =>
            rw [if_neg (by rw [hfi]; decide)] at hlay
            have h6 := u_store hfc hkC hkind hlay hi (hty k hk) hn1 hf1
            exact W.putK hx hb (f := f) ⟨hown, hts _ hlink, ⟨_, _, _, by rw [hsame] at hi; exact hi⟩, hst⟩ (by rw [q2]; exact h6) q1 q3 (by rw [hsl]; exact k2_hasslot (q4 k hk)) rfl rfl hd (fun H1 e1 e2 e3 => fin H1 _ rfl e1 e2 e3)
          | true =>
            rw [if_pos hfi] at hlay
            rw [mputok, if_pos hfi, Bool.and_eq_true, decide_eq_true_eq, decide_eq_true_eq] at hput
            have hdecl : ((mfC ci1).2.1 k).1 = mcn (mown M) := by rw [hsame, hM, hput.2]
            have hcf : m.cls = cf := by
              obtain ⟨_, _, c', _, _, _, -, -, hf', -, -, -, hown2, -⟩ := Cond.laysFinal_spec hlay
              have e1 : c' = cf := by have := hi.symm.trans hf'; simp at this; exact this.1.symm
              rw [hdecl] at hown2
              rw [← e1]; exact Option.some.inj (hown.symm.trans hown2)
            have h6 := u_fits hfc hkC hkind (Or.inr hlay) hi (hty k hk) hn1 hf1
            exact W.putFinK hx hb hown (hts _ hlink) (by rw [hsame] at hi; exact hi) hst hcf (hnm hput.1) (by rw [q2]; exact h6) q1 q3 (by rw [hsl]; exact k2_hasslot (q4 k hk)) rfl rfl hd (fun H1 e1 e2 e3 => fin H1 _ rfl e1 e2 e3)
        · cases h
      · cases h
    · cases h
  · cases h
theorem ms_iald (F : mF p s m args meth c M base sa D cA xs sl d R) (hd : decode (mbytes M) pc = .ok (.iaload, 1)) (h : mald pc 0 L st H = some (.inl (pc', L', st', H'))) : H'.2 = H.2 ∧ (mG p l e R s m args below meth c Q base sa D cA M cells slots pc' L' st' H' → mG p l e R s m args below meth c Q base sa D cA M cells slots pc L st H) := by
  unfold mald at h
  split at h
  · rename_i i a r
    split at h
    · rename_i t n f hq
      split at h
      · rename_i ht
        split at h
        · cases h
        · rename_i hi
          cases h
          refine ⟨rfl, fun kk ls Hr locs hl hn hW hS => ?_⟩
          obtain ⟨hx, hb, hml, hown, hnm, hts, hK, hrest⟩ := F
          have hc := (hW.2 a _ hq).2
          subst ht
          exact va_iald hx hb hK.1 (mP_one (q := (base + a, .inl (cA 0, n, .inl f))) hc) 0 0 rfl rfl hi hd (kk ls Hr locs hl hn hW hS)
      · cases h
    · cases h
  · cases h
theorem ms_bald (F : mF p s m args meth c M base sa D cA xs sl d R) (hd : decode (mbytes M) pc = .ok (.baload, 1)) (h : mbald pc L st H = some (.inl (pc', L', st', H'))) : H'.2 = H.2 ∧ (mG p l e R s m args below meth c Q base sa D cA M cells slots pc' L' st' H' → mG p l e R s m args below meth c Q base sa D cA M cells slots pc L st H) := by
  unfold mbald at h
  split at h
  · rename_i i a r
    split at h
    · rename_i t n f hq
      split at h
      · rename_i ht
        split at h
        · cases h
        · rename_i hi
          cases h
          refine ⟨rfl, fun kk ls Hr locs hl hn hW hS => ?_⟩
          obtain ⟨hx, hb, hml, hown, hnm, hts, hK, hrest⟩ := F
          have hc := (hW.2 a _ hq).2
          rcases ht with rfl | rfl
          · exact va_bald hx hb hK.1 (mP_one (q := (base + a, .inl (cA 1, n, .inl f))) hc) 0 1 rfl rfl hi hd (kk ls Hr locs hl hn hW hS)
          · exact va_zald hx hb hK.1 (mP_one (q := (base + a, .inl (cA 2, n, .inl f))) hc) 0 2 rfl rfl hi hd (kk ls Hr locs hl hn hW hS)
      · cases h
    · cases h
  · cases h
theorem ms_lald (F : mF p s m args meth c M base sa D cA xs sl d R) (hd : decode (mbytes M) pc = .ok (.laload, 1)) (h : mlald pc L st H = some (.inl (pc', L', st', H'))) : H'.2 = H.2 ∧ (mG p l e R s m args below meth c Q base sa D cA M cells slots pc' L' st' H' → mG p l e R s m args below meth c Q base sa D cA M cells slots pc L st H) := by
  unfold mlald at h
  split at h
  · rename_i i a r
    split at h
    · rename_i t n f hq
      split at h
      · rename_i ht
        split at h
        · cases h
        · rename_i hi
          cases h
          refine ⟨rfl, fun kk ls Hr locs hl hn hW hS => ?_⟩
          obtain ⟨hx, hb, hml, hown, hnm, hts, hK, hrest⟩ := F
          have hc := (hW.2 a _ hq).2
          subst ht
          exact va_lald hx hb hK.1 (mP_one (q := (base + a, .inl (cA 3, n, .inr (.inl f)))) hc) 0 3 rfl rfl hi hd (kk ls Hr locs hl hn hW hS)
      · cases h
    · cases h
  · cases h
theorem rv_rf (o : Option Nat) : rv base sa (va_rf o) = va_rf (o.map (fun x => base + x)) := by cases o <;> rfl
theorem ms_aald (F : mF p s m args meth c M base sa D cA xs sl d R) (hd : decode (mbytes M) pc = .ok (.aaload, 1)) (h : maald pc L st H = some (.inl (pc', L', st', H'))) : H'.2 = H.2 ∧ (mG p l e R s m args below meth c Q base sa D cA M cells slots pc' L' st' H' → mG p l e R s m args below meth c Q base sa D cA M cells slots pc L st H) := by
  unfold maald at h
  split at h
  · rename_i i a r
    split at h
    · rename_i t n f hq
      split at h
      · rename_i ht
        split at h
        · cases h
        · rename_i hi
          cases h
          refine ⟨rfl, fun kk ls Hr locs hl hn hW hS => ?_⟩
          obtain ⟨hx, hb, hml, hown, hnm, hts, hK, hrest⟩ := F
          have hc := (hW.2 a _ hq).2
          have k2 := kk ls Hr locs hl hn hW hS
          rw [List.map_cons, rv_rf] at k2
          have h4 : t = 4 ∨ t = 5 ∨ t = 6 ∨ t = 7 := by omega
          rcases h4 with rfl | rfl | rfl | rfl
          · exact va_aldq hx hb hK.1 (mP_one (q := (base + a, .inl (cA 4, n, .inr (.inr (.inr (.inr (fun j => (f j).map (fun x => base + x)))))))) hc) 0 4 rfl rfl hi hd k2
          · exact va_aldq hx hb hK.1 (mP_one (q := (base + a, .inl (cA 5, n, .inr (.inr (.inr (.inr (fun j => (f j).map (fun x => base + x)))))))) hc) 0 5 rfl rfl hi hd k2
          · exact va_aldq hx hb hK.1 (mP_one (q := (base + a, .inl (cA 6, n, .inr (.inr (.inr (.inr (fun j => (f j).map (fun x => base + x)))))))) hc) 0 6 rfl rfl hi hd k2
          · exact va_aldq hx hb hK.1 (mP_one (q := (base + a, .inl (cA 7, n, .inr (.inr (.inr (.inr (fun j => (f j).map (fun x => base + x)))))))) hc) 0 7 rfl rfl hi hd k2
      · cases h
    · cases h
  · cases h
theorem ms_ialdx (F : mF p s m args meth c M base sa D cA xs sl d R) (hd : decode (mbytes M) pc = .ok (.iaload, 1)) (h : mialdx xs sl M pc L st H = some (.inl (pc', L', st', H'))) : H'.2 = H.2 ∧ (mG p l e R s m args below meth c Q base sa D cA M cells slots pc' L' st' H' → mG p l e R s m args below meth c Q base sa D cA M cells slots pc L st H) := by
  unfold mialdx at h
  split at h
  · rename_i i r
    split at h
    · cases h
    · rename_i hi
      cases h
      obtain ⟨hx, hb, hml, hown, hnm, hts, hK, hbs, hfr, hlo, hX⟩ := F
      have hM0 : M = 0 := Classical.byContradiction (fun q => hi (Or.inl q))
      obtain ⟨hX1, hX2⟩ := hX.1 hM0
      exact ⟨rfl, fun kk ls Hr locs hl hn hW hS => va_sld hx hb hX1 (by omega) (by show ¬ base ≤ _; omega) hS (fun q => hi (Or.inr q)) hd (kk ls Hr locs hl hn hW hS)⟩
  · exact ms_iald F hd h
theorem ms_alen (F : mF p s m args meth c M base sa D cA xs sl d R) (hd : decode (mbytes M) pc = .ok (.arraylength, 1)) (h : malen sl M pc L st H = some (.inl (pc', L', st', H'))) : H'.2 = H.2 ∧ (mG p l e R s m args below meth c Q base sa D cA M cells slots pc' L' st' H' → mG p l e R s m args below meth c Q base sa D cA M cells slots pc L st H) := by
  unfold malen at h
  split at h
  · rename_i a r
    split at h
    · rename_i q hq
      split at h
      · rename_i ht
        cases h
        refine ⟨rfl, fun kk ls Hr locs hl hn hW hS => ?_⟩
        obtain ⟨hx, hb, hml, hown, hnm, hts, hK, hrest⟩ := F
        have hc := (hW.2 a _ hq).2
        obtain ⟨t, n, f | f | f⟩ := q
        all_goals
          have h8 : t = 0 ∨ t = 1 ∨ t = 2 ∨ t = 3 ∨ t = 4 ∨ t = 5 ∨ t = 6 ∨ t = 7 := by dsimp only at ht; omega
          rcases h8 with rfl | rfl | rfl | rfl | rfl | rfl | rfl | rfl
          · exact va_alen hx hb hK.1 (mP_one (q := (base + a, .inl (cA 0, n, _))) hc) 0 0 rfl rfl rfl hd (kk ls Hr locs hl hn hW hS)
          · exact va_alen hx hb hK.1 (mP_one (q := (base + a, .inl (cA 1, n, _))) hc) 0 1 rfl rfl rfl hd (kk ls Hr locs hl hn hW hS)
          · exact va_alen hx hb hK.1 (mP_one (q := (base + a, .inl (cA 2, n, _))) hc) 0 2 rfl rfl rfl hd (kk ls Hr locs hl hn hW hS)
          · exact va_alen hx hb hK.1 (mP_one (q := (base + a, .inl (cA 3, n, _))) hc) 0 3 rfl rfl rfl hd (kk ls Hr locs hl hn hW hS)
          · exact va_alen hx hb hK.1 (mP_one (q := (base + a, .inl (cA 4, n, _))) hc) 0 4 rfl rfl rfl hd (kk ls Hr locs hl hn hW hS)
          · exact va_alen hx hb hK.1 (mP_one (q := (base + a, .inl (cA 5, n, _))) hc) 0 5 rfl rfl rfl hd (kk ls Hr locs hl hn hW hS)
          · exact va_alen hx hb hK.1 (mP_one (q := (base + a, .inl (cA 6, n, _))) hc) 0 6 rfl rfl rfl hd (kk ls Hr locs hl hn hW hS)
          · exact va_alen hx hb hK.1 (mP_one (q := (base + a, .inl (cA 7, n, _))) hc) 0 7 rfl rfl rfl hd (kk ls Hr locs hl hn hW hS)
      · cases h
    · cases h
  · rename_i r
    split at h
    · rename_i hM0
      cases h
      obtain ⟨hx, hb, hml, hown, hnm, hts, hK, hbs, hfr, hlo, hX⟩ := F
      obtain ⟨hX1, hX2⟩ := hX.1 hM0
      exact ⟨rfl, fun kk ls Hr locs hl hn hW hS => va_slen hx hb hX1 (by omega) (by show ¬ base ≤ _; omega) hS hd (kk ls Hr locs hl hn hW hS)⟩
    · cases h
  · cases h
end MHEAP
