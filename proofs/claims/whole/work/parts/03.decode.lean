/-! THE TABLES CHECKED: by the kernel -/
def mw (p : Nat) (w : Cond) : Bool := decide (lw_tbl[p]? = some w) && goodWord w
def mwN (p : Nat) (w : Cond) : Bool := decide (lw_tbl[p]? = some w)
theorem mw_mem {p : Nat} {w : Cond} (h : mw p w = true) : w ∈ lw_tbl.filter goodWord := by
  simp only [mw, Bool.and_eq_true, decide_eq_true_eq] at h
  exact List.mem_filter.mpr ⟨List.mem_of_getElem? h.1, h.2⟩
theorem mwN_mem {p : Nat} {w : Cond} (h : mwN p w = true) : w ∈ lw_tbl := by
  simp only [mwN, decide_eq_true_eq] at h
  exact List.mem_of_getElem? h
theorem lookup_in {β : Type} {l : List (Nat × β)} {k : Nat} {b : β} (h : l.lookup k = some b) : (k, b) ∈ l := by
  induction l with
  | nil => simp at h
  | cons q r ih =>
    obtain ⟨a, c⟩ := q
    rw [List.lookup_cons] at h
    cases hk : k == a with
    | true =>
      rw [hk] at h
      have := eq_of_beq hk
      subst this
      cases h
      exact List.mem_cons_self
    | false =>
      rw [hk] at h
      exact List.mem_cons_of_mem _ (ih h)
theorem all_look {β : Type} {l : List (Nat × β)} {f : Nat × β → Bool} (h : l.all f = true) {k : Nat} {b : β} (hl : l.lookup k = some b) : f (k, b) = true := List.all_eq_true.mp h _ (lookup_in hl)
theorem look_len {β : Type} {l : List (List (Nat × β))} {o k : Nat} {b : β} (h : (l.getD o []).lookup k = some b) : o < l.length := by
  by_cases ho : o < l.length
  · exact ho
  · rw [List.getD_eq_getElem?_getD, List.getElem?_eq_none (by omega)] at h
    cases h
theorem getD_in {β : Type} {l : List (List β)} {o : Nat} {q : β} (h : q ∈ l.getD o []) : o < l.length := by
  by_cases ho : o < l.length
  · exact ho
  · rw [List.getD_eq_getElem?_getD, List.getElem?_eq_none (by omega)] at h
    cases h
def mchk (M : Nat) : Bool := (mTs.getD M []).all (fun q => decide (decode (mbytes M) q.1 = .ok (q.2, mlen q.2 q.1)))
/-- fields -/
def mchF (o : Nat) (q : Nat × Nat × Nat × Nat) : Bool := mw q.2.2.2 (.fieldLink (mcn o) q.1 (mfC q.2.1).1 ((mfC q.2.1).2.1 q.2.2.1).2.1 ((mfC q.2.1).2.1 q.2.2.1).2.2.1) && decide (q.2.1 < 11) && decide (q.2.2.1 < (mfC q.2.1).2.2) && decide (((mfC q.2.1).2.1 q.2.2.1).1 = (mfC q.2.1).1)
def mchI (o : Nat) (q : Nat × Nat × Nat × Nat × Nat × Nat) : Bool := match q with
  | (idx, k, M, n, p, nest) => if k = 3 then mw p (.methodLink (mcn o) idx arraycopyName) && decide (nest = 0)
    else if k = 4 then mw p (.methodLink (mcn o) idx Lib.Math.max.name) else if k = 5 then mw p (.methodLink (mcn o) idx Lib.Math.min.name) else if k = 6 then mw p (.methodLink (mcn o) idx Lib.Math.abs.name) else
    (if nest = 0 then mw p (.methodLink (mcn o) idx (mname M)) else mwN p (.methodLinkNest (mcn o) idx (mname M) "BreadTalk")) && decide (nest < 2) && decide (k < 3) && decide (0 < M) && decide (M < 293)
    && decide ((mname M).cls ≠ "java/lang/invoke/MethodHandle" ∧ (mname M).cls ≠ "java/lang/invoke/VarHandle") && decide ((parseMethodDescriptor (mname M).desc).map (fun d => d.parameters.length) = some n)
    && (decide (M = 292) || plainName (mname M).cls) && decide (mmax M ≤ 40)
    && (if k = 0 then mw (mplc M).2.1 (.instanceMethod (mname M)) && mw (mplc M).2.2.1 (.selects (mname M).cls (mname M) (mname M)) && mw (mplc M).2.2.2 (.initialized (mname M).cls)
      else if k = 1 then mw (mplc M).2.1 (.static (mname M)) && mw (mplc M).2.2.2 (.initialized (mname M).cls)
      else mw (mplc M).2.1 (.instanceMethod (mname M)) && decide ((mname M).name = "<init>") && decide (mret M = none) && (decide (M = 292) || mw (mplc M).2.2.2 (.initialized (mname M).cls)))
def mchN (o : Nat) (q : Nat × Nat × Nat) : Bool := mw q.2.2 (.classLink (mcn o) q.1 (mfC q.2.1).1) && decide (q.2.1 < 11)
def mchC (o : Nat) (q : Nat × Int32 × Nat) : Bool := mw q.2.2 (.constant (mcn o) q.1 q.2.1)
def mchL (o : Nat) (q : Nat × Int64 × Nat) : Bool := mw q.2.2 (.constantLong (mcn o) q.1 q.2.1)
def mchM (M : Nat) : Bool := (match lw_tbl[(mplc M).1]? with
  | some (.code y _ n r) => decide (y = mname M) && decide (n = mmax M) && decide (r = mret M)
  | _ => false) && decide (mcn (mown M) = (mname M).cls)

def mchkL (a b : Nat) : Bool := ((mt_0.drop a).take b).all (fun q => decide (decode code q.1 = .ok (q.2, mlen q.2 q.1)))
set_option maxRecDepth 100000 in
theorem mchkL_0 : mchkL 0 100 = true := by decide +kernel
set_option maxRecDepth 100000 in
theorem mchkL_100 : mchkL 100 100 = true := by decide +kernel
set_option maxRecDepth 100000 in
theorem mchkL_200 : mchkL 200 100 = true := by decide +kernel
set_option maxRecDepth 100000 in
theorem mchkL_300 : mchkL 300 100 = true := by decide +kernel
set_option maxRecDepth 100000 in
theorem mchkL_400 : mchkL 400 100 = true := by decide +kernel
set_option maxRecDepth 100000 in
theorem mchkL_500 : mchkL 500 100 = true := by decide +kernel
set_option maxRecDepth 100000 in
theorem mchkL_600 : mchkL 600 100 = true := by decide +kernel
set_option maxRecDepth 100000 in
theorem mchkL_700 : mchkL 700 100 = true := by decide +kernel
set_option maxRecDepth 100000 in
theorem mchkL_800 : mchkL 800 100 = true := by decide +kernel
set_option maxRecDepth 100000 in
theorem mchkL_900 : mchkL 900 100 = true := by decide +kernel
set_option maxRecDepth 100000 in
theorem mchkL_1000 : mchkL 1000 100 = true := by decide +kernel
set_option maxRecDepth 100000 in
theorem mchkL_1100 : mchkL 1100 100 = true := by decide +kernel
theorem mchk_law : mchk 0 = true := by
  refine List.all_eq_true.mpr (fun q hq => ?_)
  obtain ⟨j, hj⟩ := List.getElem?_of_mem (show q ∈ mt_0 from hq)
  have hl : mt_0.length = 1112 := by decide +kernel
  have hjl : j < 1112 := by rw [← hl]; exact (List.getElem?_eq_some_iff.mp hj).1
  have key : ∀ a, mchkL a 100 = true → a ≤ j → j < a + 100 → decide (decode (mbytes 0) q.1 = .ok (q.2, mlen q.2 q.1)) = true := fun a h h1 h2 => List.all_eq_true.mp h q (by
    refine List.mem_of_getElem? (i := j - a) ?_
    rw [List.getElem?_take_of_lt (by omega), List.getElem?_drop, show a + (j - a) = j by omega]
    exact hj)
  by_cases g0 : j < 100
  · exact key 0 mchkL_0 (by omega) g0
  by_cases g100 : j < 200
  · exact key 100 mchkL_100 (by omega) g100
  by_cases g200 : j < 300
  · exact key 200 mchkL_200 (by omega) g200
  by_cases g300 : j < 400
  · exact key 300 mchkL_300 (by omega) g300
  by_cases g400 : j < 500
  · exact key 400 mchkL_400 (by omega) g400
  by_cases g500 : j < 600
  · exact key 500 mchkL_500 (by omega) g500
  by_cases g600 : j < 700
  · exact key 600 mchkL_600 (by omega) g600
  by_cases g700 : j < 800
  · exact key 700 mchkL_700 (by omega) g700
  by_cases g800 : j < 900
  · exact key 800 mchkL_800 (by omega) g800
  by_cases g900 : j < 1000
  · exact key 900 mchkL_900 (by omega) g900
  by_cases g1000 : j < 1100
  · exact key 1000 mchkL_1000 (by omega) g1000
  by_cases g1100 : j < 1200
  · exact key 1100 mchkL_1100 (by omega) g1100
  omega
set_option maxRecDepth 100000 in
theorem mchk_0 : (List.range' 1 7).all mchk = true := by decide +kernel
set_option maxRecDepth 100000 in
theorem mchk_1 : (List.range' 8 9).all mchk = true := by decide +kernel
set_option maxRecDepth 100000 in
theorem mchk_2 : (List.range' 17 9).all mchk = true := by decide +kernel
set_option maxRecDepth 100000 in
theorem mchk_3 : (List.range' 26 7).all mchk = true := by decide +kernel
set_option maxRecDepth 100000 in
theorem mchk_4 : (List.range' 33 12).all mchk = true := by decide +kernel
set_option maxRecDepth 100000 in
theorem mchk_5 : (List.range' 45 8).all mchk = true := by decide +kernel
set_option maxRecDepth 100000 in
theorem mchk_6 : (List.range' 53 9).all mchk = true := by decide +kernel
set_option maxRecDepth 100000 in
theorem mchk_7 : (List.range' 62 7).all mchk = true := by decide +kernel
set_option maxRecDepth 100000 in
theorem mchk_8 : (List.range' 69 7).all mchk = true := by decide +kernel
set_option maxRecDepth 100000 in
theorem mchk_9 : (List.range' 76 9).all mchk = true := by decide +kernel
set_option maxRecDepth 100000 in
theorem mchk_10 : (List.range' 85 7).all mchk = true := by decide +kernel
set_option maxRecDepth 100000 in
theorem mchk_11 : (List.range' 92 7).all mchk = true := by decide +kernel
set_option maxRecDepth 100000 in
theorem mchk_12 : (List.range' 99 6).all mchk = true := by decide +kernel
set_option maxRecDepth 100000 in
theorem mchk_13 : (List.range' 105 8).all mchk = true := by decide +kernel
set_option maxRecDepth 100000 in
theorem mchk_14 : (List.range' 113 5).all mchk = true := by decide +kernel
set_option maxRecDepth 100000 in
theorem mchk_15 : (List.range' 118 7).all mchk = true := by decide +kernel
set_option maxRecDepth 100000 in
theorem mchk_16 : (List.range' 125 6).all mchk = true := by decide +kernel
set_option maxRecDepth 100000 in
theorem mchk_17 : (List.range' 131 10).all mchk = true := by decide +kernel
set_option maxRecDepth 100000 in
theorem mchk_18 : (List.range' 141 8).all mchk = true := by decide +kernel
set_option maxRecDepth 100000 in
theorem mchk_19 : (List.range' 149 11).all mchk = true := by decide +kernel
set_option maxRecDepth 100000 in
theorem mchk_20 : (List.range' 160 9).all mchk = true := by decide +kernel
set_option maxRecDepth 100000 in
theorem mchk_21 : (List.range' 169 3).all mchk = true := by decide +kernel
set_option maxRecDepth 100000 in
theorem mchk_22 : (List.range' 172 4).all mchk = true := by decide +kernel
set_option maxRecDepth 100000 in
theorem mchk_23 : (List.range' 176 3).all mchk = true := by decide +kernel
set_option maxRecDepth 100000 in
theorem mchk_24 : (List.range' 179 4).all mchk = true := by decide +kernel
set_option maxRecDepth 100000 in
theorem mchk_25 : (List.range' 183 8).all mchk = true := by decide +kernel
set_option maxRecDepth 100000 in
theorem mchk_26 : (List.range' 191 6).all mchk = true := by decide +kernel
set_option maxRecDepth 100000 in
theorem mchk_27 : (List.range' 197 4).all mchk = true := by decide +kernel
set_option maxRecDepth 100000 in
theorem mchk_28 : (List.range' 201 10).all mchk = true := by decide +kernel
set_option maxRecDepth 100000 in
theorem mchk_29 : (List.range' 211 5).all mchk = true := by decide +kernel
set_option maxRecDepth 100000 in
theorem mchk_30 : (List.range' 216 9).all mchk = true := by decide +kernel
set_option maxRecDepth 100000 in
theorem mchk_31 : (List.range' 225 3).all mchk = true := by decide +kernel
set_option maxRecDepth 100000 in
theorem mchk_32 : (List.range' 228 3).all mchk = true := by decide +kernel
set_option maxRecDepth 100000 in
theorem mchk_33 : (List.range' 231 5).all mchk = true := by decide +kernel
set_option maxRecDepth 100000 in
theorem mchk_34 : (List.range' 236 6).all mchk = true := by decide +kernel
set_option maxRecDepth 100000 in
theorem mchk_35 : (List.range' 242 7).all mchk = true := by decide +kernel
set_option maxRecDepth 100000 in
theorem mchk_36 : (List.range' 249 4).all mchk = true := by decide +kernel
set_option maxRecDepth 100000 in
theorem mchk_37 : (List.range' 253 5).all mchk = true := by decide +kernel
set_option maxRecDepth 100000 in
theorem mchk_38 : (List.range' 258 6).all mchk = true := by decide +kernel
set_option maxRecDepth 100000 in
theorem mchk_39 : (List.range' 264 5).all mchk = true := by decide +kernel
set_option maxRecDepth 100000 in
theorem mchk_40 : (List.range' 269 5).all mchk = true := by decide +kernel
set_option maxRecDepth 100000 in
theorem mchk_41 : (List.range' 274 8).all mchk = true := by decide +kernel
set_option maxRecDepth 100000 in
theorem mchk_42 : (List.range' 282 11).all mchk = true := by decide +kernel
theorem mchk_all : ∀ M, M < 293 → mchk M = true := by
  intro M h
  by_cases h0 : M = 0
  · subst h0; exact mchk_law
  by_cases g0 : M < 8
  · exact List.all_eq_true.mp mchk_0 M (List.mem_range'_1.mpr ⟨by omega, by omega⟩)
  by_cases g1 : M < 17
  · exact List.all_eq_true.mp mchk_1 M (List.mem_range'_1.mpr ⟨by omega, by omega⟩)
  by_cases g2 : M < 26
  · exact List.all_eq_true.mp mchk_2 M (List.mem_range'_1.mpr ⟨by omega, by omega⟩)
  by_cases g3 : M < 33
  · exact List.all_eq_true.mp mchk_3 M (List.mem_range'_1.mpr ⟨by omega, by omega⟩)
  by_cases g4 : M < 45
  · exact List.all_eq_true.mp mchk_4 M (List.mem_range'_1.mpr ⟨by omega, by omega⟩)
  by_cases g5 : M < 53
  · exact List.all_eq_true.mp mchk_5 M (List.mem_range'_1.mpr ⟨by omega, by omega⟩)
  by_cases g6 : M < 62
  · exact List.all_eq_true.mp mchk_6 M (List.mem_range'_1.mpr ⟨by omega, by omega⟩)
  by_cases g7 : M < 69
  · exact List.all_eq_true.mp mchk_7 M (List.mem_range'_1.mpr ⟨by omega, by omega⟩)
  by_cases g8 : M < 76
  · exact List.all_eq_true.mp mchk_8 M (List.mem_range'_1.mpr ⟨by omega, by omega⟩)
  by_cases g9 : M < 85
  · exact List.all_eq_true.mp mchk_9 M (List.mem_range'_1.mpr ⟨by omega, by omega⟩)
  by_cases g10 : M < 92
  · exact List.all_eq_true.mp mchk_10 M (List.mem_range'_1.mpr ⟨by omega, by omega⟩)
  by_cases g11 : M < 99
  · exact List.all_eq_true.mp mchk_11 M (List.mem_range'_1.mpr ⟨by omega, by omega⟩)
  by_cases g12 : M < 105
  · exact List.all_eq_true.mp mchk_12 M (List.mem_range'_1.mpr ⟨by omega, by omega⟩)
  by_cases g13 : M < 113
  · exact List.all_eq_true.mp mchk_13 M (List.mem_range'_1.mpr ⟨by omega, by omega⟩)
  by_cases g14 : M < 118
  · exact List.all_eq_true.mp mchk_14 M (List.mem_range'_1.mpr ⟨by omega, by omega⟩)
  by_cases g15 : M < 125
  · exact List.all_eq_true.mp mchk_15 M (List.mem_range'_1.mpr ⟨by omega, by omega⟩)
  by_cases g16 : M < 131
  · exact List.all_eq_true.mp mchk_16 M (List.mem_range'_1.mpr ⟨by omega, by omega⟩)
  by_cases g17 : M < 141
  · exact List.all_eq_true.mp mchk_17 M (List.mem_range'_1.mpr ⟨by omega, by omega⟩)
  by_cases g18 : M < 149
  · exact List.all_eq_true.mp mchk_18 M (List.mem_range'_1.mpr ⟨by omega, by omega⟩)
  by_cases g19 : M < 160
  · exact List.all_eq_true.mp mchk_19 M (List.mem_range'_1.mpr ⟨by omega, by omega⟩)
  by_cases g20 : M < 169
  · exact List.all_eq_true.mp mchk_20 M (List.mem_range'_1.mpr ⟨by omega, by omega⟩)
  by_cases g21 : M < 172
  · exact List.all_eq_true.mp mchk_21 M (List.mem_range'_1.mpr ⟨by omega, by omega⟩)
  by_cases g22 : M < 176
  · exact List.all_eq_true.mp mchk_22 M (List.mem_range'_1.mpr ⟨by omega, by omega⟩)
  by_cases g23 : M < 179
  · exact List.all_eq_true.mp mchk_23 M (List.mem_range'_1.mpr ⟨by omega, by omega⟩)
  by_cases g24 : M < 183
  · exact List.all_eq_true.mp mchk_24 M (List.mem_range'_1.mpr ⟨by omega, by omega⟩)
  by_cases g25 : M < 191
  · exact List.all_eq_true.mp mchk_25 M (List.mem_range'_1.mpr ⟨by omega, by omega⟩)
  by_cases g26 : M < 197
  · exact List.all_eq_true.mp mchk_26 M (List.mem_range'_1.mpr ⟨by omega, by omega⟩)
  by_cases g27 : M < 201
  · exact List.all_eq_true.mp mchk_27 M (List.mem_range'_1.mpr ⟨by omega, by omega⟩)
  by_cases g28 : M < 211
  · exact List.all_eq_true.mp mchk_28 M (List.mem_range'_1.mpr ⟨by omega, by omega⟩)
  by_cases g29 : M < 216
  · exact List.all_eq_true.mp mchk_29 M (List.mem_range'_1.mpr ⟨by omega, by omega⟩)
  by_cases g30 : M < 225
  · exact List.all_eq_true.mp mchk_30 M (List.mem_range'_1.mpr ⟨by omega, by omega⟩)
  by_cases g31 : M < 228
  · exact List.all_eq_true.mp mchk_31 M (List.mem_range'_1.mpr ⟨by omega, by omega⟩)
  by_cases g32 : M < 231
  · exact List.all_eq_true.mp mchk_32 M (List.mem_range'_1.mpr ⟨by omega, by omega⟩)
  by_cases g33 : M < 236
  · exact List.all_eq_true.mp mchk_33 M (List.mem_range'_1.mpr ⟨by omega, by omega⟩)
  by_cases g34 : M < 242
  · exact List.all_eq_true.mp mchk_34 M (List.mem_range'_1.mpr ⟨by omega, by omega⟩)
  by_cases g35 : M < 249
  · exact List.all_eq_true.mp mchk_35 M (List.mem_range'_1.mpr ⟨by omega, by omega⟩)
  by_cases g36 : M < 253
  · exact List.all_eq_true.mp mchk_36 M (List.mem_range'_1.mpr ⟨by omega, by omega⟩)
  by_cases g37 : M < 258
  · exact List.all_eq_true.mp mchk_37 M (List.mem_range'_1.mpr ⟨by omega, by omega⟩)
  by_cases g38 : M < 264
  · exact List.all_eq_true.mp mchk_38 M (List.mem_range'_1.mpr ⟨by omega, by omega⟩)
  by_cases g39 : M < 269
  · exact List.all_eq_true.mp mchk_39 M (List.mem_range'_1.mpr ⟨by omega, by omega⟩)
  by_cases g40 : M < 274
  · exact List.all_eq_true.mp mchk_40 M (List.mem_range'_1.mpr ⟨by omega, by omega⟩)
  by_cases g41 : M < 282
  · exact List.all_eq_true.mp mchk_41 M (List.mem_range'_1.mpr ⟨by omega, by omega⟩)
  by_cases g42 : M < 293
  · exact List.all_eq_true.mp mchk_42 M (List.mem_range'_1.mpr ⟨by omega, by omega⟩)
  omega
