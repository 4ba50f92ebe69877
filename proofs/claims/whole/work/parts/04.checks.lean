def mkd (M : Nat) : Nat := if (mname M).name = "<init>" then 2 else if mwN (mplc M).2.1 (.static (mname M)) = true then 1 else 0
/-- how many arguments -/
def mnar (M : Nat) : Nat := ((parseMethodDescriptor (mname M).desc).map (fun d => d.parameters.length)).getD 99
def mchJ (o : Nat) (q : Nat × Nat × Nat × Nat × Nat × Nat) : Bool := match q with
  | (idx, k, M, n, p, nest) => if k = 3 then mw p (.methodLink (mcn o) idx arraycopyName)
    else if k = 4 then mw p (.methodLink (mcn o) idx Lib.Math.max.name) else if k = 5 then mw p (.methodLink (mcn o) idx Lib.Math.min.name) else if k = 6 then mw p (.methodLink (mcn o) idx Lib.Math.abs.name)
    else (if nest = 0 then mw p (.methodLink (mcn o) idx (mname M)) else mwN p (.methodLinkNest (mcn o) idx (mname M) "BreadTalk") && decide (k ≠ 0)) && decide (k < 3) && decide (0 < M) && decide (M < 293) && decide (mkd M = k) && decide (mnar M = n) && (decide (M = 292) || plainName (mname M).cls)
def mchV (M : Nat) : Bool := decide ((mname M).cls ≠ "java/lang/invoke/MethodHandle" ∧ (mname M).cls ≠ "java/lang/invoke/VarHandle") && decide ((parseMethodDescriptor (mname M).desc).map (fun d => d.parameters.length) = some (mnar M))
    && (decide (M = 292) || plainName (mname M).cls || decide ((mname M).cls = "java/lang/Math")) && decide (mmax M ≤ 40)
    && (if mkd M = 0 then mw (mplc M).2.1 (.instanceMethod (mname M)) && mw (mplc M).2.2.1 (.selects (mname M).cls (mname M) (mname M)) && mw (mplc M).2.2.2 (.initialized (mname M).cls)
      else if mkd M = 1 then mw (mplc M).2.1 (.static (mname M)) && mw (mplc M).2.2.2 (.initialized (mname M).cls)
      else mw (mplc M).2.1 (.instanceMethod (mname M)) && decide ((mname M).name = "<init>") && decide (mret M = none) && (decide (M = 292) || mw (mplc M).2.2.2 (.initialized (mname M).cls)))
set_option maxRecDepth 100000 in
theorem mokF : (List.range 18).all (fun o => (mFls.getD o []).all (mchF o)) = true := by decide +kernel
theorem mlenF : mFls.length = 18 := by decide +kernel
set_option maxRecDepth 100000 in
theorem mokN : (List.range 18).all (fun o => (mNws.getD o []).all (mchN o)) = true := by decide +kernel
theorem mlenN : mNws.length = 18 := by decide +kernel
set_option maxRecDepth 100000 in
theorem mokC : (List.range 18).all (fun o => (mKis.getD o []).all (mchC o)) = true := by decide +kernel
theorem mlenC : mKis.length = 18 := by decide +kernel
set_option maxRecDepth 100000 in
theorem mokL : (List.range 18).all (fun o => (mKls.getD o []).all (mchL o)) = true := by decide +kernel
theorem mlenL : mKls.length = 18 := by decide +kernel
set_option maxRecDepth 100000 in
theorem mokM : (List.range' 1 292).all mchM = true := by decide +kernel
set_option maxRecDepth 100000 in
theorem mokI_0_0 : ((mIv_0.drop 0).take 40).all (mchJ 0) = true := by decide +kernel
set_option maxRecDepth 100000 in
theorem mokI_0_40 : ((mIv_0.drop 40).take 40).all (mchJ 0) = true := by decide +kernel
set_option maxRecDepth 100000 in
theorem mokI_1_0 : ((mIv_1.drop 0).take 40).all (mchJ 1) = true := by decide +kernel
set_option maxRecDepth 100000 in
theorem mokI_1_40 : ((mIv_1.drop 40).take 40).all (mchJ 1) = true := by decide +kernel
set_option maxRecDepth 100000 in
theorem mokI_2_0 : ((mIv_2.drop 0).take 40).all (mchJ 2) = true := by decide +kernel
set_option maxRecDepth 100000 in
theorem mokI_3_0 : ((mIv_3.drop 0).take 40).all (mchJ 3) = true := by decide +kernel
set_option maxRecDepth 100000 in
theorem mokI_4_0 : ((mIv_4.drop 0).take 40).all (mchJ 4) = true := by decide +kernel
set_option maxRecDepth 100000 in
theorem mokI_5_0 : ((mIv_5.drop 0).take 40).all (mchJ 5) = true := by decide +kernel
set_option maxRecDepth 100000 in
theorem mokI_6_0 : ((mIv_6.drop 0).take 40).all (mchJ 6) = true := by decide +kernel
set_option maxRecDepth 100000 in
theorem mokI_7_0 : ((mIv_7.drop 0).take 40).all (mchJ 7) = true := by decide +kernel
set_option maxRecDepth 100000 in
theorem mokI_8_0 : ((mIv_8.drop 0).take 40).all (mchJ 8) = true := by decide +kernel
set_option maxRecDepth 100000 in
theorem mokI_9_0 : ((mIv_9.drop 0).take 40).all (mchJ 9) = true := by decide +kernel
set_option maxRecDepth 100000 in
theorem mokI_10_0 : ((mIv_10.drop 0).take 40).all (mchJ 10) = true := by decide +kernel
set_option maxRecDepth 100000 in
theorem mokI_11_0 : ((mIv_11.drop 0).take 40).all (mchJ 11) = true := by decide +kernel
set_option maxRecDepth 100000 in
theorem mokI_12_0 : ((mIv_12.drop 0).take 40).all (mchJ 12) = true := by decide +kernel
set_option maxRecDepth 100000 in
theorem mokI_13_0 : ((mIv_13.drop 0).take 40).all (mchJ 13) = true := by decide +kernel
set_option maxRecDepth 100000 in
theorem mokI_13_40 : ((mIv_13.drop 40).take 40).all (mchJ 13) = true := by decide +kernel
set_option maxRecDepth 100000 in
theorem mokI_13_80 : ((mIv_13.drop 80).take 40).all (mchJ 13) = true := by decide +kernel
set_option maxRecDepth 100000 in
theorem mokI_14_0 : ((mIv_14.drop 0).take 40).all (mchJ 14) = true := by decide +kernel
set_option maxRecDepth 100000 in
theorem mokI_15_0 : ((mIv_15.drop 0).take 40).all (mchJ 15) = true := by decide +kernel
set_option maxRecDepth 100000 in
theorem mokI_16_0 : ((mIv_16.drop 0).take 40).all (mchJ 16) = true := by decide +kernel
set_option maxRecDepth 100000 in
theorem mokI_17_0 : ((mIv_17.drop 0).take 40).all (mchJ 17) = true := by decide +kernel
theorem mok_cut {β : Type} {l : List β} {f : β → Bool} {K : Nat} {q : β} (hq : q ∈ l) (h : ∀ a, a ≤ l.length → (∃ b, a = K * b) → ((l.drop a).take K).all f = true) (hK : 0 < K) : f q = true := by
  obtain ⟨j, hj⟩ := List.getElem?_of_mem hq
  have hl := (List.getElem?_eq_some_iff.mp hj).1
  have h1 := Nat.div_add_mod j K
  have h2 := Nat.mod_lt j hK
  refine List.all_eq_true.mp (h (K * (j / K)) (by omega) ⟨_, rfl⟩) q (List.mem_of_getElem? (i := j % K) ?_)
  rw [List.getElem?_take_of_lt h2, List.getElem?_drop, show K * (j / K) + j % K = j by omega]
  exact hj
theorem mokI_0 : ∀ q ∈ mIv_0, mchJ 0 q = true := by
  intro q hq
  refine mok_cut (K := 40) hq (fun a ha => ?_) (by decide)
  have hl : mIv_0.length = 62 := by decide +kernel
  rintro ⟨b, rfl⟩
  rw [hl] at ha
  by_cases hb0 : b = 0
  · subst hb0; exact mokI_0_0
  by_cases hb1 : b = 1
  · subst hb1; exact mokI_0_40
  · have hz : mIv_0.length ≤ 40 * b := by omega
    rw [List.drop_eq_nil_of_le hz]; rfl
theorem mokI_1 : ∀ q ∈ mIv_1, mchJ 1 q = true := by
  intro q hq
  refine mok_cut (K := 40) hq (fun a ha => ?_) (by decide)
  have hl : mIv_1.length = 63 := by decide +kernel
  rintro ⟨b, rfl⟩
  rw [hl] at ha
  by_cases hb0 : b = 0
  · subst hb0; exact mokI_1_0
  by_cases hb1 : b = 1
  · subst hb1; exact mokI_1_40
  · have hz : mIv_1.length ≤ 40 * b := by omega
    rw [List.drop_eq_nil_of_le hz]; rfl
theorem mokI_2 : ∀ q ∈ mIv_2, mchJ 2 q = true := by
  intro q hq
  refine mok_cut (K := 40) hq (fun a ha => ?_) (by decide)
  have hl : mIv_2.length = 3 := by decide +kernel
  rintro ⟨b, rfl⟩
  rw [hl] at ha
  by_cases hb0 : b = 0
  · subst hb0; exact mokI_2_0
  · have hz : mIv_2.length ≤ 40 * b := by omega
    rw [List.drop_eq_nil_of_le hz]; rfl
theorem mokI_3 : ∀ q ∈ mIv_3, mchJ 3 q = true := by
  intro q hq
  refine mok_cut (K := 40) hq (fun a ha => ?_) (by decide)
  have hl : mIv_3.length = 2 := by decide +kernel
  rintro ⟨b, rfl⟩
  rw [hl] at ha
  by_cases hb0 : b = 0
  · subst hb0; exact mokI_3_0
  · have hz : mIv_3.length ≤ 40 * b := by omega
    rw [List.drop_eq_nil_of_le hz]; rfl
theorem mokI_4 : ∀ q ∈ mIv_4, mchJ 4 q = true := by
  intro q hq
  refine mok_cut (K := 40) hq (fun a ha => ?_) (by decide)
  have hl : mIv_4.length = 13 := by decide +kernel
  rintro ⟨b, rfl⟩
  rw [hl] at ha
  by_cases hb0 : b = 0
  · subst hb0; exact mokI_4_0
  · have hz : mIv_4.length ≤ 40 * b := by omega
    rw [List.drop_eq_nil_of_le hz]; rfl
theorem mokI_5 : ∀ q ∈ mIv_5, mchJ 5 q = true := by
  intro q hq
  refine mok_cut (K := 40) hq (fun a ha => ?_) (by decide)
  have hl : mIv_5.length = 5 := by decide +kernel
  rintro ⟨b, rfl⟩
  rw [hl] at ha
  by_cases hb0 : b = 0
  · subst hb0; exact mokI_5_0
  · have hz : mIv_5.length ≤ 40 * b := by omega
    rw [List.drop_eq_nil_of_le hz]; rfl
theorem mokI_6 : ∀ q ∈ mIv_6, mchJ 6 q = true := by
  intro q hq
  refine mok_cut (K := 40) hq (fun a ha => ?_) (by decide)
  have hl : mIv_6.length = 18 := by decide +kernel
  rintro ⟨b, rfl⟩
  rw [hl] at ha
  by_cases hb0 : b = 0
  · subst hb0; exact mokI_6_0
  · have hz : mIv_6.length ≤ 40 * b := by omega
    rw [List.drop_eq_nil_of_le hz]; rfl
theorem mokI_7 : ∀ q ∈ mIv_7, mchJ 7 q = true := by
  intro q hq
  refine mok_cut (K := 40) hq (fun a ha => ?_) (by decide)
  have hl : mIv_7.length = 2 := by decide +kernel
  rintro ⟨b, rfl⟩
  rw [hl] at ha
  by_cases hb0 : b = 0
  · subst hb0; exact mokI_7_0
  · have hz : mIv_7.length ≤ 40 * b := by omega
    rw [List.drop_eq_nil_of_le hz]; rfl
theorem mokI_8 : ∀ q ∈ mIv_8, mchJ 8 q = true := by
  intro q hq
  refine mok_cut (K := 40) hq (fun a ha => ?_) (by decide)
  have hl : mIv_8.length = 37 := by decide +kernel
  rintro ⟨b, rfl⟩
  rw [hl] at ha
  by_cases hb0 : b = 0
  · subst hb0; exact mokI_8_0
  · have hz : mIv_8.length ≤ 40 * b := by omega
    rw [List.drop_eq_nil_of_le hz]; rfl
theorem mokI_9 : ∀ q ∈ mIv_9, mchJ 9 q = true := by
  intro q hq
  refine mok_cut (K := 40) hq (fun a ha => ?_) (by decide)
  have hl : mIv_9.length = 32 := by decide +kernel
  rintro ⟨b, rfl⟩
  rw [hl] at ha
  by_cases hb0 : b = 0
  · subst hb0; exact mokI_9_0
  · have hz : mIv_9.length ≤ 40 * b := by omega
    rw [List.drop_eq_nil_of_le hz]; rfl
theorem mokI_10 : ∀ q ∈ mIv_10, mchJ 10 q = true := by
  intro q hq
  refine mok_cut (K := 40) hq (fun a ha => ?_) (by decide)
  have hl : mIv_10.length = 8 := by decide +kernel
  rintro ⟨b, rfl⟩
  rw [hl] at ha
  by_cases hb0 : b = 0
  · subst hb0; exact mokI_10_0
  · have hz : mIv_10.length ≤ 40 * b := by omega
    rw [List.drop_eq_nil_of_le hz]; rfl
theorem mokI_11 : ∀ q ∈ mIv_11, mchJ 11 q = true := by
  intro q hq
  refine mok_cut (K := 40) hq (fun a ha => ?_) (by decide)
  have hl : mIv_11.length = 10 := by decide +kernel
  rintro ⟨b, rfl⟩
  rw [hl] at ha
  by_cases hb0 : b = 0
  · subst hb0; exact mokI_11_0
  · have hz : mIv_11.length ≤ 40 * b := by omega
    rw [List.drop_eq_nil_of_le hz]; rfl
theorem mokI_12 : ∀ q ∈ mIv_12, mchJ 12 q = true := by
  intro q hq
  refine mok_cut (K := 40) hq (fun a ha => ?_) (by decide)
  have hl : mIv_12.length = 6 := by decide +kernel
  rintro ⟨b, rfl⟩
  rw [hl] at ha
  by_cases hb0 : b = 0
  · subst hb0; exact mokI_12_0
  · have hz : mIv_12.length ≤ 40 * b := by omega
    rw [List.drop_eq_nil_of_le hz]; rfl
theorem mokI_13 : ∀ q ∈ mIv_13, mchJ 13 q = true := by
  intro q hq
  refine mok_cut (K := 40) hq (fun a ha => ?_) (by decide)
  have hl : mIv_13.length = 87 := by decide +kernel
  rintro ⟨b, rfl⟩
  rw [hl] at ha
  by_cases hb0 : b = 0
  · subst hb0; exact mokI_13_0
  by_cases hb1 : b = 1
  · subst hb1; exact mokI_13_40
  by_cases hb2 : b = 2
  · subst hb2; exact mokI_13_80
  · have hz : mIv_13.length ≤ 40 * b := by omega
    rw [List.drop_eq_nil_of_le hz]; rfl
theorem mokI_14 : ∀ q ∈ mIv_14, mchJ 14 q = true := by
  intro q hq
  refine mok_cut (K := 40) hq (fun a ha => ?_) (by decide)
  have hl : mIv_14.length = 0 := by decide +kernel
  rintro ⟨b, rfl⟩
  rw [hl] at ha
  by_cases hb0 : b = 0
  · subst hb0; exact mokI_14_0
  · have hz : mIv_14.length ≤ 40 * b := by omega
    rw [List.drop_eq_nil_of_le hz]; rfl
theorem mokI_15 : ∀ q ∈ mIv_15, mchJ 15 q = true := by
  intro q hq
  refine mok_cut (K := 40) hq (fun a ha => ?_) (by decide)
  have hl : mIv_15.length = 0 := by decide +kernel
  rintro ⟨b, rfl⟩
  rw [hl] at ha
  by_cases hb0 : b = 0
  · subst hb0; exact mokI_15_0
  · have hz : mIv_15.length ≤ 40 * b := by omega
    rw [List.drop_eq_nil_of_le hz]; rfl
theorem mokI_16 : ∀ q ∈ mIv_16, mchJ 16 q = true := by
  intro q hq
  refine mok_cut (K := 40) hq (fun a ha => ?_) (by decide)
  have hl : mIv_16.length = 0 := by decide +kernel
  rintro ⟨b, rfl⟩
  rw [hl] at ha
  by_cases hb0 : b = 0
  · subst hb0; exact mokI_16_0
  · have hz : mIv_16.length ≤ 40 * b := by omega
    rw [List.drop_eq_nil_of_le hz]; rfl
theorem mokI_17 : ∀ q ∈ mIv_17, mchJ 17 q = true := by
  intro q hq
  refine mok_cut (K := 40) hq (fun a ha => ?_) (by decide)
  have hl : mIv_17.length = 0 := by decide +kernel
  rintro ⟨b, rfl⟩
  rw [hl] at ha
  by_cases hb0 : b = 0
  · subst hb0; exact mokI_17_0
  · have hz : mIv_17.length ≤ 40 * b := by omega
    rw [List.drop_eq_nil_of_le hz]; rfl
theorem mlenI : mIvs.length = 18 := by decide +kernel
theorem mokI {o : Nat} {q : Nat × Nat × Nat × Nat × Nat × Nat} (hq : q ∈ mIvs.getD o []) : mchJ o q = true := by
  have h1 := getD_in hq
  rw [mlenI] at h1
  have h2 : o = 0 ∨ o = 1 ∨ o = 2 ∨ o = 3 ∨ o = 4 ∨ o = 5 ∨ o = 6 ∨ o = 7 ∨ o = 8 ∨ o = 9 ∨ o = 10 ∨ o = 11 ∨ o = 12 ∨ o = 13 ∨ o = 14 ∨ o = 15 ∨ o = 16 ∨ o = 17 := by omega
  rcases h2 with rfl | rfl | rfl | rfl | rfl | rfl | rfl | rfl | rfl | rfl | rfl | rfl | rfl | rfl | rfl | rfl | rfl | rfl
  · exact mokI_0 q hq
  · exact mokI_1 q hq
  · exact mokI_2 q hq
  · exact mokI_3 q hq
  · exact mokI_4 q hq
  · exact mokI_5 q hq
  · exact mokI_6 q hq
  · exact mokI_7 q hq
  · exact mokI_8 q hq
  · exact mokI_9 q hq
  · exact mokI_10 q hq
  · exact mokI_11 q hq
  · exact mokI_12 q hq
  · exact mokI_13 q hq
  · exact mokI_14 q hq
  · exact mokI_15 q hq
  · exact mokI_16 q hq
  · exact mokI_17 q hq
set_option maxRecDepth 100000 in
theorem mokV_1 : (List.range' 1 74).all mchV = true := by decide +kernel
set_option maxRecDepth 100000 in
theorem mokV_75 : (List.range' 75 74).all mchV = true := by decide +kernel
set_option maxRecDepth 100000 in
theorem mokV_149 : (List.range' 149 74).all mchV = true := by decide +kernel
set_option maxRecDepth 100000 in
theorem mokV_223 : (List.range' 223 70).all mchV = true := by decide +kernel
theorem mokV : ∀ M, 0 < M → M < 293 → mchV M = true := by
  intro M h0 h
  by_cases g1 : M < 75
  · exact List.all_eq_true.mp mokV_1 M (List.mem_range'_1.mpr ⟨by omega, by omega⟩)
  by_cases g75 : M < 149
  · exact List.all_eq_true.mp mokV_75 M (List.mem_range'_1.mpr ⟨by omega, by omega⟩)
  by_cases g149 : M < 223
  · exact List.all_eq_true.mp mokV_149 M (List.mem_range'_1.mpr ⟨by omega, by omega⟩)
  by_cases g223 : M < 297
  · exact List.all_eq_true.mp mokV_223 M (List.mem_range'_1.mpr ⟨by omega, by omega⟩)
  omega
theorem mTs_len : mTs.length = 293 := by decide +kernel
theorem mop_ok {M pc : Nat} {i : Instr} (h : mop M pc = some i) : decode (mbytes M) pc = .ok (i, mlen i pc) ∧ M < 293 := by
  unfold mop at h
  have h2 := look_len h
  rw [mTs_len] at h2
  have h3 := mchk_all M h2
  unfold mchk at h3
  exact ⟨of_decide_eq_true (all_look h3 h), h2⟩
theorem mrows {β : Type} {l : List (List β)} {f : Nat → β → Bool} (hl : l.length = 18) (h : (List.range 18).all (fun o => (l.getD o []).all (f o)) = true) {o : Nat} {q : β} (hq : q ∈ l.getD o []) : f o q = true := by
  have h1 := getD_in hq
  rw [hl] at h1
  exact List.all_eq_true.mp (List.all_eq_true.mp h o (List.mem_range.mpr h1)) q hq
theorem mFld_ok {o idx ci k : Nat} (h : mFld o idx = some (ci, k)) : (Cond.fieldLink (mcn o) idx (mfC ci).1 ((mfC ci).2.1 k).2.1 ((mfC ci).2.1 k).2.2.1) ∈ lw_tbl.filter goodWord ∧ ci < 11 ∧ k < (mfC ci).2.2 ∧ ((mfC ci).2.1 k).1 = (mfC ci).1 := by
  unfold mFld at h
  obtain ⟨⟨ci', k', p⟩, h1, h2⟩ := Option.map_eq_some_iff.mp h
  cases h2
  have h3 := mrows mlenF mokF (lookup_in h1)
  simp only [mchF, Bool.and_eq_true, decide_eq_true_eq] at h3
  exact ⟨mw_mem h3.1.1.1, h3.1.1.2, h3.1.2, h3.2⟩
theorem mNewc_ok {o idx ci : Nat} (h : mNewc o idx = some ci) : (Cond.classLink (mcn o) idx (mfC ci).1) ∈ lw_tbl.filter goodWord ∧ ci < 11 := by
  unfold mNewc at h
  obtain ⟨⟨ci', p⟩, h1, h2⟩ := Option.map_eq_some_iff.mp h
  cases h2
  have h3 := mrows mlenN mokN (lookup_in h1)
  simp only [mchN, Bool.and_eq_true, decide_eq_true_eq] at h3
  exact ⟨mw_mem h3.1, h3.2⟩
theorem mCi_ok {o idx : Nat} {v : Int32} (h : mCi o idx = some v) : (Cond.constant (mcn o) idx v) ∈ lw_tbl.filter goodWord := by
  unfold mCi at h
  obtain ⟨⟨ci', p⟩, h1, h2⟩ := Option.map_eq_some_iff.mp h
  cases h2
  exact mw_mem (mrows mlenC mokC (lookup_in h1))
theorem mCl_ok {o idx : Nat} {v : Int64} (h : mCl o idx = some v) : (Cond.constantLong (mcn o) idx v) ∈ lw_tbl.filter goodWord := by
  unfold mCl at h
  obtain ⟨⟨ci', p⟩, h1, h2⟩ := Option.map_eq_some_iff.mp h
  cases h2
  exact mw_mem (mrows mlenL mokL (lookup_in h1))
theorem mM_ok {M : Nat} (h0 : 0 < M) (h : M < 293) : (Cond.code (mname M) (mbytes M) (mmax M) (mret M)) ∈ lw_tbl.filter goodWord ∧ mcn (mown M) = (mname M).cls := by
  have h3 := List.all_eq_true.mp mokM M (List.mem_range'_1.mpr ⟨by omega, by omega⟩)
  simp only [mchM, Bool.and_eq_true, decide_eq_true_eq] at h3
  refine ⟨?_, h3.2⟩
  have h4 := h3.1
  unfold mbytes
  rw [if_neg (by omega)]
  split at h4
  · rename_i y b n r hq
    simp only [hq]
    simp only [Bool.and_eq_true, decide_eq_true_eq] at h4
    rw [← h4.1.1, ← h4.1.2, ← h4.2]
    exact List.mem_filter.mpr ⟨List.mem_of_getElem? hq, rfl⟩
  · exact absurd h4 (by decide)
theorem mInv_ok {o idx k M n : Nat} (h : mInv o idx = some (k, M, n)) : ∃ p nest, mchJ o (idx, k, M, n, p, nest) = true := by
  unfold mInv at h
  obtain ⟨⟨k', M', n', p, nest⟩, h1, h2⟩ := Option.map_eq_some_iff.mp h
  cases h2
  exact ⟨p, nest, mokI (lookup_in h1)⟩
/-- Math's own, arraycopy -/
def mmem (w : Cond) : Bool := decide (w ∈ lw_tbl) && goodWord w
theorem mmem_ok {w : Cond} (h : mmem w = true) : w ∈ lw_tbl.filter goodWord := by
  simp only [mmem, Bool.and_eq_true, decide_eq_true_eq] at h
  exact List.mem_filter.mpr h
set_option maxRecDepth 100000 in
theorem mokX : ([.static Lib.Math.max.name, .static Lib.Math.min.name, .static Lib.Math.abs.name, .initialized "java/lang/Math", .code Lib.Math.max.name Lib.Math.max.code 2 (some .int), .code Lib.Math.min.name Lib.Math.min.code 2 (some .int), .code Lib.Math.abs.name Lib.Math.abs.code 1 (some .int), .native arraycopyName, .static arraycopyName, .initialized "java/lang/System", .instanceMethod Lib.objectInit, .code Lib.objectInit ⟨#[0xb1]⟩ 1 none] : List Cond).all mmem = true := by decide +kernel
/-- the classes with objects -/
def mchK (ci : Nat) : Bool := (u_ws (mfC ci).1 (mfC ci).2.1 (mfC ci).2.2).all (fun w => decide (w ∈ lw_tbl) && goodWord w) && decide (Cond.instantiable (mfC ci).1 (mfC ci).2.2 ∈ lw_tbl) && decide (Cond.initialized (mfC ci).1 ∈ lw_tbl)
  && (List.range (mfC ci).2.2).all (fun k => decide (parseFieldDescriptor ((mfC ci).2.1 k).2.2.1 = some (mTy ci k)) && (List.range (mfC ci).2.2).all (fun j => decide (k = j) || !decide (((mfC ci).2.1 k).2.1 = ((mfC ci).2.1 j).2.1)))
set_option maxRecDepth 100000 in
theorem mokK : (List.range 11).all mchK = true := by decide +kernel
theorem mgood_ins {C : String} {n : Nat} : goodWord (.instantiable C n) = true := rfl
theorem mgood_ini {C : String} : goodWord (.initialized C) = true := rfl
theorem mK_ok {ci : Nat} (h : ci < 11) : (∀ w ∈ u_ws (mfC ci).1 (mfC ci).2.1 (mfC ci).2.2, w ∈ lw_tbl.filter goodWord) ∧ Cond.instantiable (mfC ci).1 (mfC ci).2.2 ∈ lw_tbl.filter goodWord ∧ Cond.initialized (mfC ci).1 ∈ lw_tbl.filter goodWord ∧ (∀ k, k < (mfC ci).2.2 → parseFieldDescriptor ((mfC ci).2.1 k).2.2.1 = some (mTy ci k)) ∧ ∀ a, a < (mfC ci).2.2 → ∀ b, b < (mfC ci).2.2 → a ≠ b → ((mfC ci).2.1 a).2.1 ≠ ((mfC ci).2.1 b).2.1 := by
  have h3 := List.all_eq_true.mp mokK ci (List.mem_range.mpr h)
  simp only [mchK, Bool.and_eq_true, decide_eq_true_eq] at h3
  obtain ⟨⟨⟨h4, h5⟩, h6⟩, h7⟩ := h3
  refine ⟨fun w hw => ?_, List.mem_filter.mpr ⟨h5, rfl⟩, List.mem_filter.mpr ⟨h6, rfl⟩, fun k hk => ?_, fun a ha b hb hab => ?_⟩
  · have := List.all_eq_true.mp h4 w hw
    simp only [Bool.and_eq_true, decide_eq_true_eq] at this
    exact List.mem_filter.mpr this
  · have := List.all_eq_true.mp h7 k (List.mem_range.mpr hk)
    simp only [Bool.and_eq_true, decide_eq_true_eq] at this
    exact this.1
  · have := List.all_eq_true.mp h7 a (List.mem_range.mpr ha)
    simp only [Bool.and_eq_true, decide_eq_true_eq] at this
    have h8 := List.all_eq_true.mp this.2 b (List.mem_range.mpr hb)
    simp only [Bool.or_eq_true, decide_eq_true_eq, Bool.not_eq_true', decide_eq_false_iff_not] at h8
    exact h8.resolve_left hab
theorem mfC_at {ci : Nat} (h : ci < 11) : mcl[ci]? = some (mfC ci) := by
  have : mcl.length = 11 := rfl
  rw [mfC, List.getD_eq_getElem?_getD, List.getElem?_eq_getElem (by omega)]
  rfl
set_option maxRecDepth 100000 in
theorem mokCl : (List.range 293).all (fun M => match mcls M with
  | some ci => decide ((mfC ci).1 = (mname M).cls) && decide (ci < 11)
  | none => true) = true := by decide +kernel
theorem mcls_ok {M ci : Nat} (h : M < 293) (e : mcls M = some ci) : (mfC ci).1 = (mname M).cls ∧ ci < 11 := by
  have h1 := List.all_eq_true.mp mokCl M (List.mem_range.mpr h)
  rw [e] at h1
  simp only [Bool.and_eq_true, decide_eq_true_eq] at h1
  exact h1
