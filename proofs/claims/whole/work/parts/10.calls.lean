/-! SOUNDNESS: copies, calls, returns -/
section MCALL
variable {p : Program} {l : Launch} {e : Env} {R : Room} {s : State} {m : MethodId} {args : Array Value} {below : List Frame} {meth : Method} {c : Code} {Q : State → Prop} {base : Nat} {sa : Nat → Nat} {D : va_G} {cA : Nat → ClassId} {xs : Nat → Int32} {sl d M cells slots pc : Nat} {L L' : mL} {st st' : List Value} {H H' : mH} {pc' : Nat}
theorem ms_copy {idx : Nat} (F : mF p s m args meth c M base sa D cA xs sl d R) (hd : decode (mbytes M) pc = .ok (.invokestatic idx, 3)) (hlink : Cond.methodLink (mcn (mown M)) idx arraycopyName ∈ lw_tbl.filter goodWord) (hnat : Cond.native arraycopyName ∈ lw_tbl.filter goodWord) (hstat : Cond.static arraycopyName ∈ lw_tbl.filter goodWord) (hini : Cond.initialized "java/lang/System" ∈ lw_tbl.filter goodWord) (h : mcopy d pc L st H = some (.inl (pc', L', st', H'))) : H'.2 = H.2 ∧ (mG p l e R s m args below meth c Q base sa D cA M cells slots pc' L' st' H' → mG p l e R s m args below meth c Q base sa D cA M cells slots pc L st H) := by
  unfold mcopy at h
  split at h
  · rename_i n dp b sp a r
    split at h
    · rename_i t n0 f t' n1 g ha hb2
      split at h
      · cases h
      · rename_i hcond
        split at h
        · rename_i hfit0
          cases h
          refine ⟨rfl, fun kk ls Hr locs hl hn hW hS => ?_⟩
          simp only [not_or, Nat.not_lt, Decidable.not_not] at hcond
          obtain ⟨hd0, ⟨ht2, ht'⟩, hcat, h1, h2, h3, h4, h5⟩ := hcond
          subst ht'
          obtain ⟨hx, hb, hml, hown, hnm, hts, hK, hbs, hfr, hlo, -⟩ := F
          have hd1 : 1 ≤ d := Nat.one_le_iff_ne_zero.mpr hd0
          have nn : ∀ z : Int32, ¬ z < 0 → z.toInt = (z.toNatClampNeg : Int) := by
            intro z hz
            have hz0 : (0 : Int) ≤ z.toInt := by
              have := Int32.not_lt.mp hz
              simpa using Int32.le_iff_toInt_le.mp this
            show z.toInt = ((z.toInt.toNat : Nat) : Int)
            omega
          have hc0 : Hr[base + a]? = some (vp_cell (cA t') (n0, .inl f)) := (hW.2 a _ ha).2
          have hc1 : Hr[base + b]? = some (vp_cell (cA t') (n1, .inl g)) := (hW.2 b _ hb2).2
          have hty : ∃ ty, (mtys cA)[t']? = some (cA t', ty) ∧ refKind ty = false ∧ ∀ i, i < n.toNatClampNeg → fits ty (.int (f (sp.toNatClampNeg + i))) = true := by
            have : t' = 0 ∨ t' = 1 := by omega
            rcases this with rfl | rfl
            · exact ⟨.int, rfl, rfl, fun i _ => rfl⟩
            · exact ⟨.byte, rfl, rfl, hfit0.resolve_left (by decide)⟩
          obtain ⟨ty, ht, hprim, hfit⟩ := hty
          intro T hT X
          obtain ⟨-, k0, hk0, cm0, hkk0⟩ := (hK.1.2 t' _ ht).1 n0 (fun j => .int (f j))
          obtain ⟨-, k1, hk1, cm1, hkk1⟩ := (hK.1.2 t' _ ht).1 n1 (fun j => .int (g j))
          have hnw : nativeFrameWords "java/lang/System" "arraycopy" 5 = 7 := by decide +kernel
          obtain ⟨vm', X', step⟩ := X.arraycopy hx hown (hts _ hlink) (hts _ hnat) (hts _ hstat) (hts _ hini) (src := base + a) (dst := base + b) (cs := vp_cell (cA t') (n0, .inl f)) (cd := vp_cell (cA t') (n1, .inl g)) (srcPos := sp) (destPos := dp) (n := n) (by rw [hT]; exact hc0) (by rw [hT]; exact hc1)
            (fun _ h => by cases h) (fun _ h => by cases h) (fun h => by cases h) (fun h => by cases h) hk0 hk1 hkk0 hkk1 (by simp [hprim]) h1 h2 h3
            (by rw [nn sp h1, nn n h3]; show ¬ _ > ((arrV (cA t') n0 (fun j => .int (f j))).slots.size : Int); rw [arrV_size]; omega)
            (by rw [nn dp h2, nn n h3]; show ¬ _ > ((arrV (cA t') n1 (fun j => .int (g j))).slots.size : Int); rw [arrV_size]; omega)
            (fun vm₁ _ i hi => by
              have e : (vp_cell (cA t') (n0, .inl f)).slots.getD (sp.toNatClampNeg + i) .null = .int (f (sp.toNatClampNeg + i)) := by
                show (arrV (cA t') n0 (fun j => .int (f j))).slots.getD _ _ = _
                rw [Array.getD_eq_getD_getElem?, arrV_read _ _ (by omega)]
                rfl
              refine ⟨?_, ?_⟩
              · rw [e]
                exact hfit i hi
              · rw [e]
                exact trivial)
            (g := F0 m pc ls (.int n :: .int dp :: .ref (base + b) :: .int sp :: .ref (base + a) :: List.map (rv base sa) st')) rfl (by rw [hml]; exact hl.1) (rest := List.map (rv base sa) st') rfl (by rw [hb]; exact hd) (by omega) (by show 2 * 0 + _ + _ ≤ _; rw [rv_map_cat, hnw]; omega)
          have e1 : copied (vp_cell (cA t') (n0, .inl f)) (vp_cell (cA t') (n1, .inl g)) sp dp n = vp_cell (cA t') (n1, .inl (va_cpy f g sp.toNatClampNeg dp.toNatClampNeg n.toNatClampNeg)) := va_copied (fun z => .int z) (cA t') (cA t') f g h4
          rw [e1] at X' step
          have hlt : base + b < Hr.size := (Array.getElem?_eq_some_iff.mp hc1).1
          generalize hcc : vp_cell (cA t') (n1, .inl (va_cpy f g sp.toNatClampNeg dp.toNatClampNeg n.toNatClampNeg)) = cc at X' step
          have hheap : ((T.setVm vm').setCell (base + b) cc).heap = Hr.setIfInBounds (base + b) cc := by rw [← hT]; rfl
          have oq : ∀ q : Nat, q ≠ base + b → (Hr.setIfInBounds (base + b) cc)[q]? = Hr[q]? := fun q hq => by simp [Array.getElem?_setIfInBounds, Ne.symm hq]
          obtain ⟨t, a1, b1⟩ := kk ls (Hr.setIfInBounds (base + b) cc) _ hl hn (hW.put hb2 (by simp) oq (by
              show (Hr.setIfInBounds (base + b) cc)[base + b]? = some (vp_cell _ _)
              rw [hcc]
              simp [Array.getElem?_setIfInBounds, hlt])) ⟨by simp; exact hS.1, fun q g1 g2 => by
              rw [oq q (fun e => g2 (by show base ≤ q; omega))]
              exact hS.2.1 q g1 g2, fun q hq => by
              rcases List.mem_append.mp hq with h | h
              · exact hS.2.2 q h
              · obtain ⟨z, -, hz⟩ := List.mem_map.mp h
                rw [← hz]
                show base ≤ base + b
                omega⟩ _ hheap X'
          exact ⟨t, step t a1, b1⟩
        · cases h
    · cases h
  · cases h
theorem ms_math {k idx : Nat} (F : mF p s m args meth c M base sa D cA xs sl d R) (hd : decode (mbytes M) pc = .ok (.invokestatic idx, 3)) (hlink : (k = 4 → Cond.methodLink (mcn (mown M)) idx Lib.Math.max.name ∈ lw_tbl.filter goodWord) ∧ (k = 5 → Cond.methodLink (mcn (mown M)) idx Lib.Math.min.name ∈ lw_tbl.filter goodWord) ∧ (k = 6 → Cond.methodLink (mcn (mown M)) idx Lib.Math.abs.name ∈ lw_tbl.filter goodWord)) (hc : cells ≤ R.cells) (hsl : slots ≤ R.slots) (h : mmath k d pc L st H = some (.inl (pc', L', st', H'))) : H'.2 = H.2 ∧ (mG p l e R s m args below meth c Q base sa D cA M cells slots pc' L' st' H' → mG p l e R s m args below meth c Q base sa D cA M cells slots pc L st H) := by
  have hm : ∀ w ∈ ([.static Lib.Math.max.name, .static Lib.Math.min.name, .static Lib.Math.abs.name, .initialized "java/lang/Math", .code Lib.Math.max.name Lib.Math.max.code 2 (some .int), .code Lib.Math.min.name Lib.Math.min.code 2 (some .int), .code Lib.Math.abs.name Lib.Math.abs.code 1 (some .int), .native arraycopyName, .static arraycopyName, .initialized "java/lang/System", .instanceMethod Lib.objectInit, .code Lib.objectInit ⟨#[0xb1]⟩ 1 none] : List Cond), w ∈ lw_tbl.filter goodWord := fun w hw => mmem_ok (List.all_eq_true.mp mokX w hw)
  obtain ⟨hx, hb, hml, hown, hnm, hts, hK, hbs, hfr, hlo, -⟩ := F
  unfold mmath at h
  split at h
  · split at h
    · cases h
    · rename_i y x r hcond
      cases h
      simp only [not_or, Nat.not_lt] at hcond
      exact ⟨rfl, fun kk ls Hr locs hl hn hW hS => va_mmax hx hb (hml.trans hl.1.symm) hown (hts _ (hlink.1 rfl)) (hts _ (hm _ (List.mem_of_getElem? (i := 0) rfl))) (hts _ (hm _ (List.mem_of_getElem? (i := 3) rfl))) (hts _ (hm _ (List.mem_of_getElem? (i := 4) rfl))) (by omega) (by rw [rv_map_cat]; omega) hc hsl hd (kk ls Hr locs hl hn hW hS)⟩
  · split at h
    · cases h
    · rename_i y x r hcond
      cases h
      simp only [not_or, Nat.not_lt] at hcond
      exact ⟨rfl, fun kk ls Hr locs hl hn hW hS => va_mmin hx hb (hml.trans hl.1.symm) hown (hts _ (hlink.2.1 rfl)) (hts _ (hm _ (List.mem_of_getElem? (i := 1) rfl))) (hts _ (hm _ (List.mem_of_getElem? (i := 3) rfl))) (hts _ (hm _ (List.mem_of_getElem? (i := 5) rfl))) (by omega) (by rw [rv_map_cat]; omega) hc hsl hd (kk ls Hr locs hl hn hW hS)⟩
  · split at h
    · cases h
    · rename_i x r hcond
      cases h
      simp only [not_or, Nat.not_lt] at hcond
      exact ⟨rfl, fun kk ls Hr locs hl hn hW hS => va_mabs hx hb (hml.trans hl.1.symm) hown (hts _ (hlink.2.2 rfl)) (hts _ (hm _ (List.mem_of_getElem? (i := 2) rfl))) (hts _ (hm _ (List.mem_of_getElem? (i := 3) rfl))) (hts _ (hm _ (List.mem_of_getElem? (i := 6) rfl))) (by omega) (by rw [rv_map_cat]; omega) hc hsl hd (kk ls Hr locs hl hn hW hS)⟩
  · cases h
theorem mpop_ok : ∀ {n : Nat} {st as r : List Value}, mpop n st = some (as, r) → st = as.reverse ++ r ∧ as.length = n
  | 0, st, as, r, h => by
    cases h
    exact ⟨rfl, rfl⟩
  | n + 1, [], as, r, h => by cases h
  | n + 1, v :: st, as, r, h => by
    unfold mpop at h
    split at h
    · rename_i as1 r1 h1
      cases h
      obtain ⟨e1, e2⟩ := mpop_ok h1
      refine ⟨?_, by simp [e2]⟩
      rw [e1]
      simp
    · cases h
theorem mlay_len : ∀ as : List Value, (lg_sl (as.map (rv base sa))).length = (mlay as).length
  | [] => rfl
  | v :: r => by
    have ih := mlay_len r
    have e : ∀ v : Value, lg_sl ((v :: r).map (rv base sa)) = (if v.category = 2 then [Slot.val (rv base sa v), Slot.second] else [Slot.val (rv base sa v)]) ++ lg_sl (r.map (rv base sa)) := by
      intro v
      rw [List.map_cons, lg_sl, List.flatMap_cons, rv_cat]
      rfl
    rw [e, List.length_append, ih]
    cases v <;> simp [mlay, Value.category] <;> omega
theorem mlay_args : ∀ (as : List Value) (k : Nat), ∀ q ∈ mprs base sa k (mlay as), q ∈ lv_args k (as.map (rv base sa))
  | [], k, q, h => by cases h
  | v :: r, k, q, h => by
    have ih := mlay_args r
    cases v with
    | long x =>
      rcases List.mem_cons.mp (show q ∈ (k, rv base sa (.long x)) :: mprs base sa (k + 1 + 1) (mlay r) from h) with h | h
      · exact List.mem_cons.mpr (Or.inl h)
      · exact List.mem_cons.mpr (Or.inr (ih (k + 1 + 1) q h))
    | double x =>
      rcases List.mem_cons.mp (show q ∈ (k, rv base sa (.double x)) :: mprs base sa (k + 1 + 1) (mlay r) from h) with h | h
      · exact List.mem_cons.mpr (Or.inl h)
      · exact List.mem_cons.mpr (Or.inr (ih (k + 1 + 1) q h))
    | int x =>
      rcases List.mem_cons.mp (show q ∈ (k, rv base sa (.int x)) :: mprs base sa (k + 1) (mlay r) from h) with h | h
      · exact List.mem_cons.mpr (Or.inl h)
      · exact List.mem_cons.mpr (Or.inr (ih (k + 1) q h))
    | float x =>
      rcases List.mem_cons.mp (show q ∈ (k, rv base sa (.float x)) :: mprs base sa (k + 1) (mlay r) from h) with h | h
      · exact List.mem_cons.mpr (Or.inl h)
      · exact List.mem_cons.mpr (Or.inr (ih (k + 1) q h))
    | null =>
      rcases List.mem_cons.mp (show q ∈ (k, rv base sa .null) :: mprs base sa (k + 1) (mlay r) from h) with h | h
      · exact List.mem_cons.mpr (Or.inl h)
      · exact List.mem_cons.mpr (Or.inr (ih (k + 1) q h))
    | ref x =>
      rcases List.mem_cons.mp (show q ∈ (k, rv base sa (.ref x)) :: mprs base sa (k + 1) (mlay r) from h) with h | h
      · exact List.mem_cons.mpr (Or.inl h)
      · exact List.mem_cons.mpr (Or.inr (ih (k + 1) q h))
    | retAddr x =>
      rcases List.mem_cons.mp (show q ∈ (k, rv base sa (.retAddr x)) :: mprs base sa (k + 1) (mlay r) from h) with h | h
      · exact List.mem_cons.mpr (Or.inl h)
      · exact List.mem_cons.mpr (Or.inr (ih (k + 1) q h))
theorem ment_has {as : List Value} {ls : Array Slot} {n : Nat} (h : lv_has ls n (lv_args 0 (as.map (rv base sa)))) : lv_has ls n (mprs base sa 0 (mpad n (mlay as))) := by
  refine ⟨h.1, h.2.1, fun q hq => h.2.2 q (mlay_args as 0 q ?_)⟩
  obtain ⟨j, v, e1, e2⟩ := mprs_mem.mp hq
  refine mprs_mem.mpr ⟨j, v, e1, ?_⟩
  unfold mpad at e2
  by_cases hj : j < (mlay as).length
  · rwa [List.getElem?_append_left hj] at e2
  · rw [List.getElem?_append_right (by omega), List.getElem?_replicate] at e2
    split at e2 <;> simp at e2
theorem ment_len {M : Nat} {as : List Value} (h : (mlay as).length ≤ mmax M) : (ment M as).length = mmax M := by
  rw [ment, mpad, List.length_append, List.length_replicate]
  omega
/-- a method's contract -/
def mPc (base : Nat) (sa : Nat → Nat) (D : va_G) (cA : Nat → ClassId) (H : mH) (as : List Value) : Array Value → State → Prop := fun v U => v = (as.map (rv base sa)).toArray ∧ mW base sa D cA H U.heap ∧ mK D cA U ∧ base ≤ U.heap.size ∧ mS base sa U
def mQc (base : Nat) (sa : Nat → Nat) (D : va_G) (cA : Nat → ClassId) (r : Option Value) (H' : mH) : Array Value → State → Outcome → State → Prop := fun _ st oc t => oc = .returned (r.map (rv base sa)) ∧ mW base sa D cA H' t.heap ∧ va_F (fun q => base ≤ q) st t
def mWS (M : Nat) : List Cond := .code (mname M) (mbytes M) (mmax M) (mret M) :: lw_tbl.filter goodWord
def mrm (d : Nat) (H H' : mH) : Room := { frames := d, cells := H'.2.1 - H.2.1, slots := H'.2.2 - H.2.2, locals := 64 * d }
theorem mK.warm {s U : State} (hW : s.WarmedH U.vm) (h : mK D cA s) : mK D cA U := by
  refine ⟨va_K.moved hW.alike h.1, fun w hw hn => ?_, fun C hC => va_AO.moved hW.alike (h.2.2 C hC)⟩
  have h1 := h.2.1 w hw hn
  cases w <;> first | exact va_Nw.warmM hW h1 | (simp [misNest] at hn; done)
theorem mPc_blind {as : List Value} : FrameBlind (mPc base sa D cA H as) := by
  intro a U g mk q
  obtain ⟨q0, q1, q2, q3, q4⟩ := q
  refine ⟨q0, q1, ⟨va_K.moved (u := U) (U := U.calling g mk a) (Vm.Alike.refl U.vm) q2.1, fun w hw hn => ?_, fun C hC => va_AO.moved (u := U) (U := U.calling g mk a) (Vm.Alike.refl U.vm) (q2.2.2 C hC)⟩, q3, q4.calling⟩
  have h1 := q2.2.1 w hw hn
  cases w <;> first | exact va_Nw.same (U := U.calling g mk a) rfl rfl h1 | (simp [misNest] at hn; done)
/-- behind a call -/
theorem mcall {r : Option Value} {Hr : Heap} {locs : List Loc} {mc ms : Nat} {ls : Array Slot} {st0 rest : List Value} {a : Array Value} (hr : va_Run p l e R s m args below meth c Hr locs cells slots mc ms (F0 m pc ls st0) rest (mQc base sa D cA r H' a) (fun q => base ≤ q)) (hS : va_S (fun q => base ≤ q) s.heap Hr locs)
    (kk : ∀ (H1 : Heap) (locs1 : List Loc), mW base sa D cA H' H1 → va_S (fun q => base ≤ q) s.heap H1 locs1 → W p l e R s m args below meth c H1 locs1 (cells + mc) (slots + ms) Q (F0 m (pc + 3) ls ((r.map (rv base sa)).toList ++ rest))) : W p l e R s m args below meth c Hr locs cells slots Q (F0 m pc ls st0) := by
  intro T hT X
  obtain ⟨v, st₀, t, T', Lc, h0, X', hL, e1, e2, ⟨hv, hw, hz, hk⟩, stp⟩ := hr T hT X
  cases hv
  rw [h0] at hz hk
  obtain ⟨t2, a1, b1⟩ := kk T'.heap (locs ++ Lc) (by rw [e1]; exact hw)
    ⟨Nat.le_trans hS.1 (by rw [e1]; exact hz), fun q h1 h2 => by rw [e1, hk q (Nat.lt_of_lt_of_le h1 hS.1) h2]; exact hS.2.1 q h1 h2, fun q hq => by
      rcases List.mem_append.mp hq with h | h
      · exact hS.2.2 q h
      · exact hL q h⟩ T' rfl X'
  exact ⟨t2, stp t2 a1, b1⟩
end MCALL
