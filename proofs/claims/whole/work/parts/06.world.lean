/-! SOUNDNESS OF THE SMALL MACHINE: how its state stands in the real one -/
section MWORLD
/-- a value as the real machine has it: references from the base on; a retAddr stands for a constant String or the script -/
def rv (base : Nat) (sa : Nat → Nat) (v : Value) : Value := match v with
  | .ref x => .ref (base + x)
  | .retAddr x => .ref (sa x)
  | v => v
theorem rv_cat {base : Nat} {sa : Nat → Nat} (v : Value) : (rv base sa v).category = v.category := by cases v <;> rfl
theorem rv_map_cat {base : Nat} {sa : Nat → Nat} (st : List Value) : ((st.map (rv base sa)).map fun v => v.category).sum = mcat st := by
  unfold mcat
  rw [List.map_map]
  congr 1
  apply List.map_congr_left
  intro v _
  exact rv_cat v
/-- the locals, listed -/
def mprs (base : Nat) (sa : Nat → Nat) : Nat → mL → List (Nat × Value)
  | _, [] => []
  | k, none :: r => mprs base sa (k + 1) r
  | k, some v :: r => (k, rv base sa v) :: mprs base sa (k + 1) r
theorem mprs_mem {base : Nat} {sa : Nat → Nat} {q : Nat × Value} : ∀ {L : mL} {k : Nat}, q ∈ mprs base sa k L ↔ ∃ j v, q = (k + j, rv base sa v) ∧ L[j]? = some (some v)
  | [], k => by simp [mprs]
  | none :: r, k => by
    rw [mprs, mprs_mem]
    constructor
    · rintro ⟨j, v, h1, h2⟩
      exact ⟨j + 1, v, by rw [h1, show k + 1 + j = k + (j + 1) by omega], by simpa using h2⟩
    · rintro ⟨j, v, h1, h2⟩
      cases j with
      | zero => simp at h2
      | succ j => exact ⟨j, v, by rw [h1, show k + 1 + j = k + (j + 1) by omega], by simpa using h2⟩
  | some w :: r, k => by
    rw [mprs, List.mem_cons, mprs_mem]
    constructor
    · rintro (h1 | ⟨j, v, h1, h2⟩)
      · exact ⟨0, w, h1, by simp⟩
      · exact ⟨j + 1, v, by rw [h1, show k + 1 + j = k + (j + 1) by omega], by simpa using h2⟩
    · rintro ⟨j, v, h1, h2⟩
      cases j with
      | zero =>
        left
        simp at h2
        rw [h1, h2]
        rfl
      | succ j => exact Or.inr ⟨j, v, by rw [h1, show k + 1 + j = k + (j + 1) by omega], by simpa using h2⟩
theorem ml_at {base : Nat} {sa : Nat → Nat} {ls : Array Slot} {nL i : Nat} {L : mL} {v : Value} (h : lv_has ls nL (mprs base sa 0 L)) (hv : L[i]? = some (some v)) : ls[i]? = some (.val (rv base sa v)) :=
  h.2.2 (i, rv base sa v) (mprs_mem.mpr ⟨i, v, by rw [Nat.zero_add], hv⟩)
theorem mkill_len (L : mL) (i : Nat) : (mkill L i).length = L.length := by
  cases i with
  | zero => rfl
  | succ i =>
    simp only [mkill]
    split <;> simp
theorem mkill_at {L : mL} {i j : Nat} {w : Value} (h : (mkill L i)[j]? = some (some w)) : L[j]? = some (some w) ∧ ¬ (j + 1 = i ∧ w.category = 2) := by
  cases i with
  | zero => exact ⟨h, fun q => by omega⟩
  | succ i =>
    simp only [mkill] at h
    split at h
    · rw [List.getElem?_set] at h
      by_cases hj : i = j
      · subst hj
        rw [if_pos rfl] at h
        split at h <;> simp at h
      · rw [if_neg hj] at h
        exact ⟨h, fun q => hj (by omega)⟩
    · rw [List.getElem?_set] at h
      by_cases hj : i = j
      · subst hj
        rw [if_pos rfl] at h
        split at h <;> simp at h
      · rw [if_neg hj] at h
        exact ⟨h, fun q => hj (by omega)⟩
    · rename_i h1 h2
      refine ⟨h, fun q => ?_⟩
      have hj : j = i := by omega
      subst hj
      cases w with
      | long x => exact h1 x h
      | double x => exact h2 x h
      | _ => exact absurd q.2 (by simp [Value.category])
theorem ml_st1 {base : Nat} {sa : Nat → Nat} {ls : Array Slot} {nL i : Nat} {L : mL} {v : Value} (hi : i < L.length) (h : lv_has ls nL ((i, rv base sa v) :: (mprs base sa 0 L).filter (fun q => !(q.1 == i) && !(q.1 + 1 == i && q.2.category == 2)))) : lv_has ls nL (mprs base sa 0 (mst1 L i v)) := by
  refine ⟨h.1, h.2.1, fun q hq => h.2.2 q ?_⟩
  obtain ⟨j, w, rfl, hw⟩ := mprs_mem.mp hq
  unfold mst1 at hw
  rw [List.getElem?_set] at hw
  by_cases hj : i = j
  · subst hj
    rw [if_pos rfl, if_pos (by rw [mkill_len]; exact hi)] at hw
    cases hw
    rw [Nat.zero_add]
    exact List.mem_cons_self
  · rw [if_neg hj] at hw
    obtain ⟨h1, h2⟩ := mkill_at hw
    refine List.mem_cons_of_mem _ (List.mem_filter.mpr ⟨mprs_mem.mpr ⟨j, w, rfl, h1⟩, ?_⟩)
    simp only [Nat.zero_add, Bool.and_eq_true, Bool.not_eq_true', beq_eq_false_iff_ne, ne_eq, Bool.and_eq_false_iff, rv_cat]
    refine ⟨fun q => hj q.symm, ?_⟩
    by_cases h3 : j + 1 = i
    · exact Or.inr (fun q => h2 ⟨h3, q⟩)
    · exact Or.inl h3
theorem ml_st2 {base : Nat} {sa : Nat → Nat} {ls : Array Slot} {nL i : Nat} {L : mL} {v : Value} (hi : i + 1 < L.length) (h : lv_has ls nL ((i, rv base sa v) :: (mprs base sa 0 L).filter (fun q => !(q.1 == i) && (!(q.1 == i + 1) && !(q.1 + 1 == i && q.2.category == 2))))) : lv_has ls nL (mprs base sa 0 (mst2 L i v)) := by
  refine ⟨h.1, h.2.1, fun q hq => h.2.2 q ?_⟩
  obtain ⟨j, w, rfl, hw⟩ := mprs_mem.mp hq
  unfold mst2 at hw
  rw [List.getElem?_set] at hw
  by_cases hj1 : i + 1 = j
  · subst hj1
    rw [if_pos rfl] at hw
    split at hw <;> simp at hw
  · rw [if_neg hj1, List.getElem?_set] at hw
    by_cases hj : i = j
    · subst hj
      rw [if_pos rfl, if_pos (by rw [mkill_len]; omega)] at hw
      cases hw
      rw [Nat.zero_add]
      exact List.mem_cons_self
    · rw [if_neg hj] at hw
      obtain ⟨h1, h2⟩ := mkill_at hw
      refine List.mem_cons_of_mem _ (List.mem_filter.mpr ⟨mprs_mem.mpr ⟨j, w, rfl, h1⟩, ?_⟩)
      simp only [Nat.zero_add, Bool.and_eq_true, Bool.not_eq_true', beq_eq_false_iff_ne, ne_eq, Bool.and_eq_false_iff, rv_cat]
      refine ⟨fun q => hj q.symm, fun q => hj1 q.symm, ?_⟩
      by_cases h3 : j + 1 = i
      · exact Or.inr (fun q => h2 ⟨h3, q⟩)
      · exact Or.inl h3
theorem mst1_len (L : mL) (i : Nat) (v : Value) : (mst1 L i v).length = L.length := by rw [mst1, List.length_set, mkill_len]
theorem mst2_len (L : mL) (i : Nat) (v : Value) : (mst2 L i v).length = L.length := by rw [mst2, List.length_set, List.length_set, mkill_len]
/-- a cell in the real heap -/
def mat (base : Nat) (sa : Nat → Nat) (D : va_G) (cA : Nat → ClassId) (k : Nat) (c : mC) (Hr : Heap) : Prop := match c with
  | .inl q => ∃ r : vw_C, mcl[q.1]? = some r ∧ t_OB (base + k) (D.1 q.1) r.2.2 (D.2 q.1) Hr (fun j => rv base sa (q.2 j))
  | .inr (t, n, .inl f) => Hr[base + k]? = some (vp_cell (cA t) (n, .inl f))
  | .inr (t, n, .inr (.inl f)) => Hr[base + k]? = some (vp_cell (cA t) (n, .inr (.inl f)))
  | .inr (t, n, .inr (.inr f)) => Hr[base + k]? = some (vp_cell (cA t) (n, .inr (.inr (.inr (.inr (fun j => (f j).map (fun x => base + x)))))))
def mW (base : Nat) (sa : Nat → Nat) (D : va_G) (cA : Nat → ClassId) (H : mH) (Hr : Heap) : Prop := Hr.size = base + H.2.1 ∧ ∀ (k : Nat) (c : mC), H.1 k = some c → k < H.2.1 ∧ mat base sa D cA k c Hr
theorem mat.kept {base : Nat} {sa : Nat → Nat} {D : va_G} {cA : Nat → ClassId} {k : Nat} {c : mC} {Hr Hr1 : Heap} (h : mat base sa D cA k c Hr) (hq : Hr1[base + k]? = Hr[base + k]?) : mat base sa D cA k c Hr1 := by
  obtain q | ⟨t, n, f | f | f⟩ := c
  · obtain ⟨r, h1, h2⟩ := h
    exact ⟨r, h1, h2.kept hq⟩
  · exact hq.trans h
  · exact hq.trans h
  · exact hq.trans h
theorem mW.put {base : Nat} {sa : Nat → Nat} {D : va_G} {cA : Nat → ClassId} {H : mH} {Hr Hr1 : Heap} {k : Nat} {c0 c : mC} (h : mW base sa D cA H Hr) (hk : H.1 k = some c0) (z : Hr1.size = Hr.size) (o : ∀ q : Nat, q ≠ base + k → Hr1[q]? = Hr[q]?) (hm : mat base sa D cA k c Hr1) : mW base sa D cA (mset H k c) Hr1 := by
  refine ⟨z.trans h.1, fun j c1 hj => ?_⟩
  simp only [mset, va_up] at hj
  by_cases e : j = k
  · subst e
    rw [if_pos rfl] at hj
    cases hj
    exact ⟨(h.2 j c0 hk).1, hm⟩
  · rw [if_neg e] at hj
    exact ⟨(h.2 j c1 hj).1, (h.2 j c1 hj).2.kept (o _ (fun q => e (by omega)))⟩
theorem mW.push {base : Nat} {sa : Nat → Nat} {D : va_G} {cA : Nat → ClassId} {H : mH} {Hr Hr1 : Heap} {c : mC} {n : Nat} (h : mW base sa D cA H Hr) (z : Hr1.size = Hr.size + 1) (o : ∀ q : Nat, q < Hr.size → Hr1[q]? = Hr[q]?) (hm : mat base sa D cA H.2.1 c Hr1) : mW base sa D cA (mnew H c n) Hr1 := by
  have h0 := h.1
  refine ⟨by show Hr1.size = base + (H.2.1 + 1); omega, fun j c1 hj => ?_⟩
  simp only [mnew, va_up] at hj
  show j < H.2.1 + 1 ∧ _
  by_cases e : j = H.2.1
  · subst e
    rw [if_pos rfl] at hj
    cases hj
    exact ⟨by omega, hm⟩
  · rw [if_neg e] at hj
    have h1 := (h.2 j c1 hj).1
    exact ⟨by omega, (h.2 j c1 hj).2.kept (o _ (by omega))⟩
theorem va_S.grow {A : Nat → Prop} {H0 H H1 : Heap} {locs : List Loc} (hS : va_S A H0 H locs) (z : H1.size = H.size + 1) (o : ∀ q : Nat, q < H.size → H1[q]? = H[q]?) : va_S A H0 H1 locs :=
  ⟨Nat.le_trans hS.1 (by omega), fun x h1 h2 => (o x (Nat.lt_of_lt_of_le h1 hS.1)).trans (hS.2.1 x h1 h2), hS.2.2⟩
/-- the array types, by their numbers -/
def mtys (cA : Nat → ClassId) : List (ClassId × FieldType) := [(cA 0, .int), (cA 1, .byte), (cA 2, .boolean), (cA 3, .long), (cA 4, .object "BreadTalk$Town"), (cA 5, .object "BreadTalk$Days"), (cA 6, .object "BreadTalk$Plate"), (cA 7, .object "BreadTalk$Told")]
def misNest : Cond → Bool
  | .methodLinkNest .. => true
  | _ => false
def marrC : List String := ["BreadTalk$Town", "BreadTalk$Days", "BreadTalk$Plate", "BreadTalk$Told"]
/-- what the tables say, of a state -/
def mK (D : va_G) (cA : Nat → ClassId) (U : State) : Prop := va_K D mcl (mtys cA) U ∧ (∀ w ∈ lw_tbl, misNest w = true → va_Nw w U) ∧ ∀ C ∈ marrC, va_AO C U
/-- the String constants, of a state -/
def mS (base : Nat) (sa : Nat → Nat) (U : State) : Prop := (∀ j, j < 13 → ∃ dv fm : Nat, sOK (sa j) dv (slen j) fm (sch j) (fun q => base ≤ q) U) ∧ ∀ idx j : Nat, mSt 8 idx = some j → ∃ tx : String, vk_R "BreadTalk$Reader" idx tx (sa j) U
theorem mS.go {base : Nat} {sa : Nat → Nat} {s U : State} {H : Heap} {locs : List Loc} (h : mS base sa s) (hW : s.WarmedH U.vm) (hU : U.heap = H) (hS : va_S (fun q => base ≤ q) s.heap H locs) : mS base sa U := by
  refine ⟨fun j hj => ?_, fun idx j hj => ?_⟩
  · obtain ⟨dv, fm, q⟩ := h.1 j hj
    exact ⟨dv, fm, q.go hW hU hS⟩
  · obtain ⟨tx, q⟩ := h.2 idx j hj
    exact ⟨tx, q.warm hW⟩
theorem mS.calling {base : Nat} {sa : Nat → Nat} {U : State} {g : JFrame} {mk : MethodId} {v : Array Value} (h : mS base sa U) : mS base sa (U.calling g mk v) := by
  refine ⟨fun j hj => ?_, fun idx j hj => ?_⟩
  · obtain ⟨dv, fm, q⟩ := h.1 j hj
    exact ⟨dv, fm, q.calling⟩
  · obtain ⟨tx, q⟩ := h.2 idx j hj
    exact ⟨tx, vk_R.same (u := U) rfl q⟩
/-- a method's frame: what stands while it runs -/
def mF (p : Program) (s : State) (m : MethodId) (args : Array Value) (meth : Method) (c : Code) (M base : Nat) (sa : Nat → Nat) (D : va_G) (cA : Nat → ClassId) (xs : Nat → Int32) (sl d : Nat) (R : Room) : Prop :=
  p.tables.exec = Jvm.exec ∧ c.code = mbytes M ∧ c.maxLocals = mmax M ∧ s.vm.findClass (mcn (mown M)) = some m.cls ∧ ((mname M).name = "<init>" → meth.name = "<init>") ∧ (∀ w ∈ lw_tbl.filter goodWord, w.before args s = true) ∧ mK D cA s ∧ base ≤ s.heap.size ∧ d ≤ R.frames ∧ 64 * d ≤ R.locals ∧ (M = 0 → va_X (sa 99) sl xs s s.heap ∧ sa 99 < base) ∧ mS base sa s
/-- the judgement: from here the real machine comes to Q -/
def mG (p : Program) (l : Launch) (e : Env) (R : Room) (s : State) (m : MethodId) (args : Array Value) (below : List Frame) (meth : Method) (c : Code) (Q : State → Prop) (base : Nat) (sa : Nat → Nat) (D : va_G) (cA : Nat → ClassId) (M cells slots pc : Nat) (L : mL) (st : List Value) (H : mH) : Prop :=
  ∀ (ls : Array Slot) (Hr : Heap) (locs : List Loc), lv_has ls (mmax M) (mprs base sa 0 L) → L.length = mmax M → mW base sa D cA H Hr → va_S (fun q => base ≤ q) s.heap Hr locs → W p l e R s m args below meth c Hr locs cells slots Q (F0 m pc ls (st.map (rv base sa)))
end MWORLD
