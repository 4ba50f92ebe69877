/-! SOUNDNESS, what is written and made in the heap -/
section MSTORE
variable {p : Program} {l : Launch} {e : Env} {R : Room} {s : State} {m : MethodId} {args : Array Value} {below : List Frame} {meth : Method} {c : Code} {Q : State → Prop} {base : Nat} {sa : Nat → Nat} {D : va_G} {cA : Nat → ClassId} {xs : Nat → Int32} {sl d M cells slots pc : Nat} {L L' : mL} {st st' : List Value} {H H' : mH} {pc' : Nat}
theorem ms_iast (F : mF p s m args meth c M base sa D cA xs sl d R) (hd : decode (mbytes M) pc = .ok (.iastore, 1)) (h : miast pc L st H = some (.inl (pc', L', st', H'))) : H'.2 = H.2 ∧ (mG p l e R s m args below meth c Q base sa D cA M cells slots pc' L' st' H' → mG p l e R s m args below meth c Q base sa D cA M cells slots pc L st H) := by
  unfold miast at h
  split at h
  · rename_i x i a r
    split at h
    · rename_i t n f hq
      split at h
      · rename_i ht
        split at h
        · cases h
        · rename_i hi
          cases h
          subst ht
          refine ⟨rfl, fun kk ls Hr locs hl hn hW hS => ?_⟩
          obtain ⟨hx, hb, hml, hown, hnm, hts, hK, hrest⟩ := F
          have hc := (hW.2 a _ hq).2
          refine W.iast hx hb hc ((hK.1.2 0 _ rfl).1 n (fun j => .int (f j))) (fun q => by cases q) (by show ¬ (i < 0 ∨ (arrV _ _ _).slots.size ≤ _); rw [arrV_size]; exact hi) rfl rfl hd fun H1 e1 z oq => ?_
          refine kk ls H1 _ hl hn (hW.put hq z oq ?_) (hS.put z oq (by show base ≤ base + a; omega))
          show H1[base + a]? = some (vp_cell _ _)
          rw [e1, vp_cell_i, vp_cell_i, arrV_store]
          congr 2
          funext q
          by_cases hq2 : q = i.toNatClampNeg
          · subst hq2
            simp [updV, va_up]
          · simp [updV, va_up, hq2]
      · cases h
    · cases h
  · cases h
theorem ms_last (F : mF p s m args meth c M base sa D cA xs sl d R) (hd : decode (mbytes M) pc = .ok (.lastore, 1)) (h : mlast pc L st H = some (.inl (pc', L', st', H'))) : H'.2 = H.2 ∧ (mG p l e R s m args below meth c Q base sa D cA M cells slots pc' L' st' H' → mG p l e R s m args below meth c Q base sa D cA M cells slots pc L st H) := by
  unfold mlast at h
  split at h
  · rename_i x i a r
    split at h
    · rename_i t n f hq
      split at h
      · rename_i ht
        split at h
        · cases h
        · rename_i hi
          cases h
          subst ht
          refine ⟨rfl, fun kk ls Hr locs hl hn hW hS => ?_⟩
          obtain ⟨hx, hb, hml, hown, hnm, hts, hK, hrest⟩ := F
          have hc := (hW.2 a _ hq).2
          refine W.last hx hb hc ((hK.1.2 3 _ rfl).1 n (fun j => .long (f j))) (fun q => by cases q) (by show ¬ (i < 0 ∨ (arrV _ _ _).slots.size ≤ _); rw [arrV_size]; exact hi) rfl rfl hd fun H1 e1 z oq => ?_
          refine kk ls H1 _ hl hn (hW.put hq z oq ?_) (hS.put z oq (by show base ≤ base + a; omega))
          show H1[base + a]? = some (vp_cell _ _)
          rw [e1, vp_cell_l, vp_cell_l, arrV_store]
          congr 2
          funext q
          by_cases hq2 : q = i.toNatClampNeg
          · subst hq2
            simp [updV, va_up]
          · simp [updV, va_up, hq2]
      · cases h
    · cases h
  · cases h
theorem ms_bast (F : mF p s m args meth c M base sa D cA xs sl d R) (hd : decode (mbytes M) pc = .ok (.bastore, 1)) (h : mbast pc L st H = some (.inl (pc', L', st', H'))) : H'.2 = H.2 ∧ (mG p l e R s m args below meth c Q base sa D cA M cells slots pc' L' st' H' → mG p l e R s m args below meth c Q base sa D cA M cells slots pc L st H) := by
  unfold mbast at h
  split at h
  · rename_i x i a r
    split at h
    · rename_i t n f hq
      split at h
      · rename_i ht
        split at h
        · cases h
        · rename_i hi
          cases h
          subst ht
          refine ⟨rfl, fun kk ls Hr locs hl hn hW hS => ?_⟩
          obtain ⟨hx, hb, hml, hown, hnm, hts, hK, hrest⟩ := F
          have hc := (hW.2 a _ hq).2
          refine W.bast hx hb hc ((hK.1.2 1 _ rfl).1 n (fun j => .int (f j))) (fun q => by cases q) (by show ¬ (i < 0 ∨ (arrV _ _ _).slots.size ≤ _); rw [arrV_size]; exact hi) rfl rfl hd fun H1 e1 z oq => ?_
          refine kk ls H1 _ hl hn (hW.put hq z oq ?_) (hS.put z oq (by show base ≤ base + a; omega))
          show H1[base + a]? = some (vp_cell _ _)
          rw [e1, vp_cell_i, vp_cell_i, arrV_store]
          congr 2
          funext q
          by_cases hq2 : q = i.toNatClampNeg
          · subst hq2
            simp [updV, va_up, vp_nar]
            try rfl
          · simp [updV, va_up, hq2]
      ·
        split at h
        · rename_i ht
          split at h
          · cases h
          · rename_i hi
            cases h
            subst ht
            refine ⟨rfl, fun kk ls Hr locs hl hn hW hS => ?_⟩
            obtain ⟨hx, hb, hml, hown, hnm, hts, hK, hrest⟩ := F
            have hc := (hW.2 a _ hq).2
            refine W.zast hx hb hc ((hK.1.2 2 _ rfl).1 n (fun j => .int (f j))) (fun q => by cases q) (by show ¬ (i < 0 ∨ (arrV _ _ _).slots.size ≤ _); rw [arrV_size]; exact hi) rfl rfl hd fun H1 e1 z oq => ?_
            refine kk ls H1 _ hl hn (hW.put hq z oq ?_) (hS.put z oq (by show base ≤ base + a; omega))
            show H1[base + a]? = some (vp_cell _ _)
            rw [e1, vp_cell_i, vp_cell_i, arrV_store]
            congr 2
            funext q
            by_cases hq2 : q = i.toNatClampNeg
            · subst hq2
              simp [updV, va_up, vp_nar]
              try rfl
            · simp [updV, va_up, hq2]
        · cases h
    · cases h
  · cases h
theorem ms_aast (F : mF p s m args meth c M base sa D cA xs sl d R) (hd : decode (mbytes M) pc = .ok (.aastore, 1)) (h : maast pc L st H = some (.inl (pc', L', st', H'))) : H'.2 = H.2 ∧ (mG p l e R s m args below meth c Q base sa D cA M cells slots pc' L' st' H' → mG p l e R s m args below meth c Q base sa D cA M cells slots pc L st H) := by
  unfold maast at h
  split at h
  · rename_i v i a r
    split at h
    · rename_i t n f hq
      split at h
      · rename_i q hv
        split at h
        · rename_i hel
          split at h
          · cases h
          · rename_i hi
            cases h
            refine ⟨rfl, fun kk ls Hr locs hl hn hW hS => ?_⟩
            obtain ⟨hx, hb, hml, hown, hnm, hts, hK, hrest⟩ := F
            obtain ⟨ci, F1⟩ := q
            dsimp only at hel
            have hc := (hW.2 a _ hq).2
            have hlt : i.toNatClampNeg < n := Nat.not_le.mp fun q => hi (Or.inr q)
            have h0 : ¬ i < 0 := fun q => hi (Or.inl q)
            have key : ∃ r0 : vw_C, mcl[ci]? = some r0 ∧ (mtys cA)[t]? = some (cA t, .object r0.1) := by
              unfold mEl at hel
              split at hel
              · cases hel; exact ⟨_, rfl, rfl⟩
              · cases hel; exact ⟨_, rfl, rfl⟩
              · cases hel; exact ⟨_, rfl, rfl⟩
              · cases hel; exact ⟨_, rfl, rfl⟩
              · cases hel
            obtain ⟨r0, hr0, ht⟩ := key
            obtain ⟨r', hr', cellV, g1, g2, g3, -⟩ := (hW.2 v _ hv).2
            have hcls := (hK.1.1 ci r0 hr0).2
            obtain ⟨kA, comp, k1, k2, k3, -⟩ := (hK.1.2 t _ ht).2
            have hcomp : comp = D.1 ci := Option.some.inj (k3.symm.trans hcls.1)
            subst hcomp
            obtain ⟨kC, hkC, hkd⟩ := hcls.2
            refine W.aast hx hb hc (fun q h => by cases h) (fun h => by cases h) k1 k2 rfl hkC ⟨h0, by show _ < (arrV _ _ _).slots.size; rw [arrV_size]; exact hlt⟩ g1 (fun q h => by rw [g3] at h; cases h) (by rw [g2]; exact hkC) (by rw [g2]; exact va_assign hcls) rfl rfl hd fun H1 e1 z oq => ?_
            refine kk ls H1 _ hl hn (hW.put hq z oq ?_) (hS.put z oq (by show base ≤ base + a; omega))
            show H1[base + a]? = some (vp_cell _ _)
            rw [e1, vp_cell_q, vp_cell_q, arrV_store]
            congr 2
            funext q
            by_cases hq2 : q = i.toNatClampNeg
            · subst hq2
              simp [updV, va_up, va_rf]
            · simp [updV, va_up, hq2]
        · cases h
      · cases h
    · cases h
  · cases h
theorem ms_grown {n : Nat} {cl : mC} {a b : Nat} (ha : (mnew H cl n).2.1 - H.2.1 = a) (hb : (mnew H cl n).2.2 - H.2.2 = b) : a = 1 ∧ b = n := by
  simp only [mnew] at ha hb
  omega
theorem ms_new {idx ci : Nat} (F : mF p s m args meth c M base sa D cA xs sl d R) (hd : decode (mbytes M) pc = .ok (.new idx, 3)) (hci : mNewc (mown M) idx = some ci) (h1 : cells + 1 ≤ R.cells) (h2 : slots + (mfC ci).2.2 ≤ R.slots) (kk : mG p l e R s m args below meth c Q base sa D cA M (cells + 1) (slots + (mfC ci).2.2) (pc + 3) L (.ref H.2.1 :: st) (mnew H (mO ci (fun k => mdef (mTy ci k))) (mfC ci).2.2)) : mG p l e R s m args below meth c Q base sa D cA M cells slots pc L st H := by
  intro ls Hr locs hl hn hW hS
  obtain ⟨hx, hb, hml, hown, hnm, hts, hK, hrest⟩ := F
  obtain ⟨hlink, hci2⟩ := mNewc_ok hci
  obtain ⟨hin, hins, hini, hty, hnn⟩ := mK_ok hci2
  have hc : mcl[ci]? = some ((mfC ci).1, (mfC ci).2.1, (mfC ci).2.2) := mfC_at hci2
  have hKn := hK.1.1 ci _ hc
  refine W.newcK hx hb hown (hts _ hlink) (hts _ hins) (hts _ hini) rfl hd h1 h2 hKn.2.1 hW.1 fun H1 kC hkC e1 z1 o1 => ?_
  have hz := hW.1
  refine kk ls H1 locs hl hn (hW.push (by omega) (fun q hq => o1 q (by omega)) ?_) (hS.grow (by omega) (fun q hq => o1 q (by omega)))
  refine ⟨_, hc, (u_born (mTy ci) hts hin hKn hkC e1 hty).to (fun k hk => ?_)⟩
  show defaultValue (mTy ci k) = rv base sa (defaultValue (mTy ci k))
  cases mTy ci k <;> rfl
theorem ms_newai {n : Int32} (F : mF p s m args meth c M base sa D cA xs sl d R) (hA : Cond.arrayClass .int ∈ lw_tbl.filter goodWord) (hd : decode (mbytes M) pc = .ok (.newarray .int, 2)) (hn0 : ¬ (n < 0 ∨ 100000 < n.toNatClampNeg)) (h1 : cells + 1 ≤ R.cells) (h2 : slots + n.toNatClampNeg ≤ R.slots) (kk : mG p l e R s m args below meth c Q base sa D cA M (cells + 1) (slots + n.toNatClampNeg) (pc + 2) L (.ref H.2.1 :: st) (mnew H (mI 0 n.toNatClampNeg (fun _ => 0)) n.toNatClampNeg)) : mG p l e R s m args below meth c Q base sa D cA M cells slots pc L (.int n :: st) H := by
  intro ls Hr locs hl hn hW hS
  obtain ⟨hx, hb, hml, hown, hnm, hts, hK, hrest⟩ := F
  have hsm : n.toNatClampNeg ≤ 100000 := Nat.not_lt.mp (fun q => hn0 (Or.inr q))
  refine va_newaK (atype := .int) hx hb (hts _ hA) rfl hd rfl (fun q => hn0 (Or.inl q)) rfl (by show _ * componentBytes FieldType.int ≤ _; simp only [componentBytes]; omega) h1 h2 hW.1 fun H1 cB e1 z1 o1 hAr hNm => ?_
  have hz := hW.1
  have ec : cB = cA 0 := by
    have h9 := (hK.1.2 0 _ rfl).2
    exact Option.some.inj (hNm.symm.trans h9)
  subst ec
  refine kk ls H1 locs hl hn (hW.push (by omega) (fun q hq => o1 q (by omega)) ?_) (hS.grow (by omega) (fun q hq => o1 q (by omega)))
  show H1[base + H.2.1]? = some (vp_cell _ _)
  rw [e1, vp_cell_i]
  rfl
theorem ms_newab {n : Int32} (F : mF p s m args meth c M base sa D cA xs sl d R) (hA : Cond.arrayClass .byte ∈ lw_tbl.filter goodWord) (hd : decode (mbytes M) pc = .ok (.newarray .byte, 2)) (hn0 : ¬ (n < 0 ∨ 100000 < n.toNatClampNeg)) (h1 : cells + 1 ≤ R.cells) (h2 : slots + n.toNatClampNeg ≤ R.slots) (kk : mG p l e R s m args below meth c Q base sa D cA M (cells + 1) (slots + n.toNatClampNeg) (pc + 2) L (.ref H.2.1 :: st) (mnew H (mI 1 n.toNatClampNeg (fun _ => 0)) n.toNatClampNeg)) : mG p l e R s m args below meth c Q base sa D cA M cells slots pc L (.int n :: st) H := by
  intro ls Hr locs hl hn hW hS
  obtain ⟨hx, hb, hml, hown, hnm, hts, hK, hrest⟩ := F
  have hsm : n.toNatClampNeg ≤ 100000 := Nat.not_lt.mp (fun q => hn0 (Or.inr q))
  refine va_newaK (atype := .byte) hx hb (hts _ hA) rfl hd rfl (fun q => hn0 (Or.inl q)) rfl (by show _ * componentBytes FieldType.byte ≤ _; simp only [componentBytes]; omega) h1 h2 hW.1 fun H1 cB e1 z1 o1 hAr hNm => ?_
  have hz := hW.1
  have ec : cB = cA 1 := by
    have h9 := (hK.1.2 1 _ rfl).2
    exact Option.some.inj (hNm.symm.trans h9)
  subst ec
  refine kk ls H1 locs hl hn (hW.push (by omega) (fun q hq => o1 q (by omega)) ?_) (hS.grow (by omega) (fun q hq => o1 q (by omega)))
  show H1[base + H.2.1]? = some (vp_cell _ _)
  rw [e1, vp_cell_i]
  rfl
theorem ms_newaz {n : Int32} (F : mF p s m args meth c M base sa D cA xs sl d R) (hA : Cond.arrayClass .boolean ∈ lw_tbl.filter goodWord) (hd : decode (mbytes M) pc = .ok (.newarray .boolean, 2)) (hn0 : ¬ (n < 0 ∨ 100000 < n.toNatClampNeg)) (h1 : cells + 1 ≤ R.cells) (h2 : slots + n.toNatClampNeg ≤ R.slots) (kk : mG p l e R s m args below meth c Q base sa D cA M (cells + 1) (slots + n.toNatClampNeg) (pc + 2) L (.ref H.2.1 :: st) (mnew H (mI 2 n.toNatClampNeg (fun _ => 0)) n.toNatClampNeg)) : mG p l e R s m args below meth c Q base sa D cA M cells slots pc L (.int n :: st) H := by
  intro ls Hr locs hl hn hW hS
  obtain ⟨hx, hb, hml, hown, hnm, hts, hK, hrest⟩ := F
  have hsm : n.toNatClampNeg ≤ 100000 := Nat.not_lt.mp (fun q => hn0 (Or.inr q))
  refine va_newaK (atype := .boolean) hx hb (hts _ hA) rfl hd rfl (fun q => hn0 (Or.inl q)) rfl (by show _ * componentBytes FieldType.boolean ≤ _; simp only [componentBytes]; omega) h1 h2 hW.1 fun H1 cB e1 z1 o1 hAr hNm => ?_
  have hz := hW.1
  have ec : cB = cA 2 := by
    have h9 := (hK.1.2 2 _ rfl).2
    exact Option.some.inj (hNm.symm.trans h9)
  subst ec
  refine kk ls H1 locs hl hn (hW.push (by omega) (fun q hq => o1 q (by omega)) ?_) (hS.grow (by omega) (fun q hq => o1 q (by omega)))
  show H1[base + H.2.1]? = some (vp_cell _ _)
  rw [e1, vp_cell_i]
  rfl
theorem ms_newal {n : Int32} (F : mF p s m args meth c M base sa D cA xs sl d R) (hA : Cond.arrayClass .long ∈ lw_tbl.filter goodWord) (hd : decode (mbytes M) pc = .ok (.newarray .long, 2)) (hn0 : ¬ (n < 0 ∨ 100000 < n.toNatClampNeg)) (h1 : cells + 1 ≤ R.cells) (h2 : slots + n.toNatClampNeg ≤ R.slots) (kk : mG p l e R s m args below meth c Q base sa D cA M (cells + 1) (slots + n.toNatClampNeg) (pc + 2) L (.ref H.2.1 :: st) (mnew H (mJ 3 n.toNatClampNeg (fun _ => 0)) n.toNatClampNeg)) : mG p l e R s m args below meth c Q base sa D cA M cells slots pc L (.int n :: st) H := by
  intro ls Hr locs hl hn hW hS
  obtain ⟨hx, hb, hml, hown, hnm, hts, hK, hrest⟩ := F
  have hsm : n.toNatClampNeg ≤ 100000 := Nat.not_lt.mp (fun q => hn0 (Or.inr q))
  refine va_newaK (atype := .long) hx hb (hts _ hA) rfl hd rfl (fun q => hn0 (Or.inl q)) rfl (by show _ * componentBytes FieldType.long ≤ _; simp only [componentBytes]; omega) h1 h2 hW.1 fun H1 cB e1 z1 o1 hAr hNm => ?_
  have hz := hW.1
  have ec : cB = cA 3 := by
    have h9 := (hK.1.2 3 _ rfl).2
    exact Option.some.inj (hNm.symm.trans h9)
  subst ec
  refine kk ls H1 locs hl hn (hW.push (by omega) (fun q hq => o1 q (by omega)) ?_) (hS.grow (by omega) (fun q hq => o1 q (by omega)))
  show H1[base + H.2.1]? = some (vp_cell _ _)
  rw [e1, vp_cell_l]
  rfl
theorem ms_anew {idx ci t : Nat} {n : Int32} (F : mF p s m args meth c M base sa D cA xs sl d R) (hd : decode (mbytes M) pc = .ok (.anewarray idx, 3)) (hci : mNewc (mown M) idx = some ci) (hct : mArr ci = some t) (hn0 : ¬ (n < 0 ∨ 100000 < n.toNatClampNeg)) (h1 : cells + 1 ≤ R.cells) (h2 : slots + n.toNatClampNeg ≤ R.slots) (kk : mG p l e R s m args below meth c Q base sa D cA M (cells + 1) (slots + n.toNatClampNeg) (pc + 3) L (.ref H.2.1 :: st) (mnew H (mQ t n.toNatClampNeg (fun _ => none)) n.toNatClampNeg)) : mG p l e R s m args below meth c Q base sa D cA M cells slots pc L (.int n :: st) H := by
  intro ls Hr locs hl hn hW hS
  obtain ⟨hx, hb, hml, hown, hnm, hts, hK, hrest⟩ := F
  obtain ⟨hlink, hci2⟩ := mNewc_ok hci
  have hsm : n.toNatClampNeg ≤ 100000 := Nat.not_lt.mp (fun q => hn0 (Or.inr q))
  have key : (mfC ci).1 ∈ marrC ∧ (mtys cA)[t]? = some (cA t, .object (mfC ci).1) := by
    unfold mArr at hct
    split at hct
    · cases hct; exact ⟨by decide +kernel, rfl⟩
    · cases hct; exact ⟨by decide +kernel, rfl⟩
    · cases hct; exact ⟨by decide +kernel, rfl⟩
    · cases hct; exact ⟨by decide +kernel, rfl⟩
    · cases hct
  obtain ⟨kA1, comp1, q1, q2, q3, q4⟩ := (hK.1.2 t _ key.2).2
  have hz := hW.1
  refine W.anew hx hb hown (hts _ hlink) (va_AO.use (hK.2.2 _ key.1)) rfl hd rfl (fun q => hn0 (Or.inl q)) (by omega) h1 h2 fun cB kA comp f1 f2 f3 f4 => ?_
  have ec : cB = cA t := Option.some.inj (f1.symm.trans q4)
  subst ec
  have k2 := kk ls (Hr.push ({ cls := cA t, slots := Array.replicate n.toNatClampNeg .null, vm := .none } : Cell)) locs hl hn (hW.push (by rw [Array.size_push]) (fun q hq => by rw [Array.getElem?_push, if_neg (Nat.ne_of_lt hq)]) (by
    show (Hr.push _)[base + H.2.1]? = some (vp_cell _ _)
    rw [← hz, Array.getElem?_push_size, vp_cell_q, arrV_new]
    rfl)) (hS.grow (by rw [Array.size_push]) (fun q hq => by rw [Array.getElem?_push, if_neg (Nat.ne_of_lt hq)]))
  have e9 : (F0 m (pc + 3) ls (List.map (rv base sa) (.ref H.2.1 :: st))) = F0 m (pc + 3) ls (.ref Hr.size :: List.map (rv base sa) st) := by
    rw [List.map_cons, hz]
    rfl
  rw [e9] at k2
  exact k2
end MSTORE
