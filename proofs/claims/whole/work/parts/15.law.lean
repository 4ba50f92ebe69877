/-! THE CLAIM OUT OF ONE WALK OF THE LAW'S BODY. Your part is whole_start (and what it stands on); all else here is the same for every law, but numbers. -/
def R_law : String := "BreadTalkLaw"
def lw_P (b : Addr) (xs : List Int32) (args : Array Value) (s : State) : Prop := args = #[.ref b] ∧ s.IntsAt b xs ∧ xs.length ≤ 3072 ∧ (Jvm.Cond.and given_1 narrow_1).before args s = true
def lw_Q (_ : Array Value) (s : State) (o : Outcome) (t : State) : Prop := o = .returned (some (.int 1)) ∧ Framed s o t [] room_1.cells room_1.slots
def lw_Z (below : List Frame) (a : Array Value) (s : State) : State → Prop := fun t => ∃ o, t.status = .running ∧ Ended t below o ∧ lw_Q a s o t
/-- the law's own end, with 1 on the stack, nothing written that was there before, its room as the claim has it -/
theorem lw_ret {p : Program} {l : Launch} {e : Env} {s : State} {m : MethodId} {below : List Frame} {meth : Method} {c : Code} {b : Nat} (hx : p.tables.exec = Jvm.exec) (hb : c.code = code) (hr : meth.sig.returnType = ret) (hlocks : meth.locks = false) {pc : Nat} {H : Heap} {ls : Array Slot} (hdg : decode code pc = .ok (.ireturn, 1)) : W p l e room_1 s m #[Value.ref b] below meth c H [] room_1.cells room_1.slots (lw_Z below #[Value.ref b] s) (F0 m pc ls [.int 1]) := by
  intro T hT X
  obtain ⟨fs, hret, hrun, hended, hW, hframe⟩ := X.leave (v := some (.int 1)) (hlocks := hlocks) (fun h => by rw [hr] at h; cases h)
  have hmeth' : T.vm.method? m = some meth := X.method'
  refine ⟨T.setFrames fs, ?_, .returned (some (.int 1)), hrun, hended, rfl, ⟨_, rfl⟩, hW, hframe⟩
  jvm_step X.here [X.here.top, hx, hb, hdg, hmeth', hr, ret, narrow_b1]
  (try refine ⟨rfl, ?_⟩); (try refine ⟨rfl, ?_⟩)
  first | (intro acts; rw [hret _ acts rfl rfl rfl]) | rw [hret _ _ rfl rfl rfl]
  exact Steps.refl _
/-- what holds at the law's entry: the machine, the code, the tables' words (any of lw_tbl by 'hts w (by decide +kernel)'), the script of L ints xs at the cell b, what the Statement gives of the start (any of its parts by flat_of_before) -/
def lw_At (p : Program) (s : State) (m : MethodId) (meth : Method) (c : Code) (b L : Nat) (xs : Nat → Int32) : Prop :=
  p.tables.exec = Jvm.exec ∧ c.code = code ∧ meth.sig.returnType = ret ∧ c.maxLocals = 4 ∧ s.vm.findClass R_law = some m.cls ∧ (∀ w ∈ lw_tbl, w.before #[Value.ref b] s = true) ∧ va_X b L xs s s.heap ∧ b < s.heap.size ∧ meth.locks = false ∧ (Jvm.Cond.and given_1 narrow_1).before #[Value.ref b] s = true
/-- what the pure run must show: the small machine's run of the law on the script ends with 1, within the room -/
def lawRuns (xs : Nat → Int32) (sl : Nat) : Prop := ∃ (n : Nat) (H' : mH), go xs sl n 1000 0 0 [some (.retAddr 99), none, none, none] [] (fun _ => none, 0, 0) = some (some (.int 1), H') ∧ H'.2.1 ≤ 1000 ∧ H'.2.2 ≤ 40000
theorem mK_start {s : State} {b : Nat} (hts : ∀ w ∈ lw_tbl, w.before #[Value.ref b] s = true) : ∃ (D : va_G) (cA : Nat → ClassId), mK D cA s := by
  have hcl : ∀ ci : Nat, ∃ (cC : ClassId) (iS : Nat → Nat), ci < 11 → u_Kn s (mfC ci).1 (mfC ci).2.1 (mfC ci).2.2 cC iS := by
    intro ci
    by_cases h : ci < 11
    · obtain ⟨hin, hins, -, -, -⟩ := mK_ok h
      obtain ⟨cC, iS, hk⟩ := u_known (ws := lw_tbl) hts (fun w hw => (List.mem_filter.mp (hin w hw)).1) (hts _ (List.mem_filter.mp hins).1)
      exact ⟨cC, iS, fun _ => hk⟩
    · exact ⟨0, fun _ => 0, fun q => absurd q h⟩
  have harr : ∀ ty : FieldType, Cond.arrayClass ty ∈ lw_tbl → refKind ty = false → ∃ cA : ClassId, ArrOfT s cA ty ∧ va_RA s cA ty := by
    intro ty hm hr
    obtain ⟨c, k, comp, h1, h2, h3⟩ := Cond.arrayClass_spec (hts _ hm)
    refine ⟨c, fun n z => ⟨fun q h => (by cases h), k, h2, comp, h3⟩, ?_⟩
    cases ty <;> first | exact h1 | (simp [refKind] at hr; done)
  have hover : ∀ C : String, Cond.arrayOver (.object C) ∈ lw_tbl → ∃ cA : ClassId, ArrOfT s cA (.object C) ∧ va_RA s cA (.object C) := by
    intro C hm
    obtain ⟨comp, c, k, h1, -, h2, h3, h4⟩ := Cond.arrayOver_spec (hts _ hm)
    exact ⟨c, fun n z => ⟨fun q h => (by cases h), k, h2, comp, h3⟩, k, comp, h2, h3, h1, h4⟩
  obtain ⟨a0, p0⟩ := harr .int (by decide +kernel) rfl
  obtain ⟨a1, p1⟩ := harr .byte (by decide +kernel) rfl
  obtain ⟨a2, p2⟩ := harr .boolean (by decide +kernel) rfl
  obtain ⟨a3, p3⟩ := harr .long (by decide +kernel) rfl
  have o4 : Cond.arrayOver (.object "BreadTalk$Town") ∈ lw_tbl := by decide +kernel
  have o5 : Cond.arrayOver (.object "BreadTalk$Days") ∈ lw_tbl := by decide +kernel
  have o6 : Cond.arrayOver (.object "BreadTalk$Plate") ∈ lw_tbl := by decide +kernel
  have o7 : Cond.arrayOver (.object "BreadTalk$Told") ∈ lw_tbl := by decide +kernel
  obtain ⟨a4, p4⟩ := hover _ o4
  obtain ⟨a5, p5⟩ := hover _ o5
  obtain ⟨a6, p6⟩ := hover _ o6
  obtain ⟨a7, p7⟩ := hover _ o7
  refine ⟨(fun ci => (hcl ci).choose, fun ci => (hcl ci).choose_spec.choose), fun t => [a0, a1, a2, a3, a4, a5, a6, a7].getD t 0, ⟨fun ci q hq => ?_, fun k q hq => ?_⟩, fun w hw hn => ?_, fun C hC => ?_⟩
  · have hlt : ci < 11 := (List.getElem?_eq_some_iff.mp hq).1
    have e := mfC_at hlt
    rw [hq] at e
    cases e
    exact (hcl ci).choose_spec.choose_spec hlt
  · have hlt : k < 8 := (List.getElem?_eq_some_iff.mp hq).1
    have h8 : k = 0 ∨ k = 1 ∨ k = 2 ∨ k = 3 ∨ k = 4 ∨ k = 5 ∨ k = 6 ∨ k = 7 := by omega
    rcases h8 with rfl | rfl | rfl | rfl | rfl | rfl | rfl | rfl
    · cases hq; exact p0
    · cases hq; exact p1
    · cases hq; exact p2
    · cases hq; exact p3
    · cases hq; exact p4
    · cases hq; exact p5
    · cases hq; exact p6
    · cases hq; exact p7
  · have h1 := hts w hw
    cases w <;> first | exact va_Nw.of rfl h1 | (simp [misNest] at hn; done)
  · simp only [marrC, List.mem_cons, List.not_mem_nil, or_false] at hC
    rcases hC with rfl | rfl | rfl | rfl
    · exact va_AO.of (hts _ o4)
    · exact va_AO.of (hts _ o5)
    · exact va_AO.of (hts _ o6)
    · exact va_AO.of (hts _ o7)
/-- what the Statement says of the String constants at the start -/
def ssT (i : Nat) : Term := .string "BreadTalk$Reader" ((mStL.map (fun q => q.1)).getD i 0)
abbrev ssV (i : Nat) : Term := .field (ssT i) "java/lang/String" "value" "[B"
def ssC (i : Nat) : List Cond := [.exactly (ssT i) "java/lang/String", .eq (.field (ssT i) "java/lang/String" "coder" "B") (.int 0), .arrayOf (ssV i) .byte, .eq (.length (ssV i)) (.int (Int32.ofNat (sLen.getD i 0)))] ++ (List.range (sLen.getD i 0)).map (fun j => .eq (.elem (ssV i) (.int (Int32.ofNat j))) (.int ((sBy.getD i []).getD j 0)))
def stTx : List String := ["rye bun crust toast wafer say bake eat butter talk night topics life house visit mind said loaf lies crumb for against ", "c", "n", "nz", "ha", "htwv", "otwv", "ko", "hl", "ho", "z", "btwv", ""]
set_option maxRecDepth 100000 in
theorem ssC_0 : ((flatC (Jvm.Cond.and given_1 narrow_1)).drop 53).take 123 = ssC 0 := by decide +kernel
set_option maxRecDepth 100000 in
theorem ssC_1 : ((flatC (Jvm.Cond.and given_1 narrow_1)).drop 176).take 5 = ssC 1 := by decide +kernel
set_option maxRecDepth 100000 in
theorem ssC_2 : ((flatC (Jvm.Cond.and given_1 narrow_1)).drop 182).take 5 = ssC 2 := by decide +kernel
set_option maxRecDepth 100000 in
theorem ssC_3 : ((flatC (Jvm.Cond.and given_1 narrow_1)).drop 189).take 6 = ssC 3 := by decide +kernel
set_option maxRecDepth 100000 in
theorem ssC_4 : ((flatC (Jvm.Cond.and given_1 narrow_1)).drop 198).take 6 = ssC 4 := by decide +kernel
set_option maxRecDepth 100000 in
theorem ssC_5 : ((flatC (Jvm.Cond.and given_1 narrow_1)).drop 208).take 8 = ssC 5 := by decide +kernel
set_option maxRecDepth 100000 in
theorem ssC_6 : ((flatC (Jvm.Cond.and given_1 narrow_1)).drop 221).take 8 = ssC 6 := by decide +kernel
set_option maxRecDepth 100000 in
theorem ssC_7 : ((flatC (Jvm.Cond.and given_1 narrow_1)).drop 235).take 6 = ssC 7 := by decide +kernel
set_option maxRecDepth 100000 in
theorem ssC_8 : ((flatC (Jvm.Cond.and given_1 narrow_1)).drop 248).take 6 = ssC 8 := by decide +kernel
set_option maxRecDepth 100000 in
theorem ssC_9 : ((flatC (Jvm.Cond.and given_1 narrow_1)).drop 262).take 6 = ssC 9 := by decide +kernel
set_option maxRecDepth 100000 in
theorem ssC_10 : ((flatC (Jvm.Cond.and given_1 narrow_1)).drop 277).take 5 = ssC 10 := by decide +kernel
set_option maxRecDepth 100000 in
theorem ssC_11 : ((flatC (Jvm.Cond.and given_1 narrow_1)).drop 292).take 8 = ssC 11 := by decide +kernel
set_option maxRecDepth 100000 in
theorem ssC_12 : ((flatC (Jvm.Cond.and given_1 narrow_1)).drop 311).take 4 = ssC 12 := by decide +kernel
def ssP_0 : List (Nat × Nat) := [(0, 1)]
set_option maxRecDepth 100000 in
theorem ssN_0 : ((flatC (Jvm.Cond.and given_1 narrow_1)).drop 181).take 1 = ssP_0.map (fun q => Cond.not (Cond.eq (ssT q.1) (ssT q.2))) := by decide +kernel
def ssP_1 : List (Nat × Nat) := [(0, 2), (1, 2)]
set_option maxRecDepth 100000 in
theorem ssN_1 : ((flatC (Jvm.Cond.and given_1 narrow_1)).drop 187).take 2 = ssP_1.map (fun q => Cond.not (Cond.eq (ssT q.1) (ssT q.2))) := by decide +kernel
def ssP_2 : List (Nat × Nat) := [(0, 3), (1, 3), (2, 3)]
set_option maxRecDepth 100000 in
theorem ssN_2 : ((flatC (Jvm.Cond.and given_1 narrow_1)).drop 195).take 3 = ssP_2.map (fun q => Cond.not (Cond.eq (ssT q.1) (ssT q.2))) := by decide +kernel
def ssP_3 : List (Nat × Nat) := [(0, 4), (1, 4), (2, 4), (3, 4)]
set_option maxRecDepth 100000 in
theorem ssN_3 : ((flatC (Jvm.Cond.and given_1 narrow_1)).drop 204).take 4 = ssP_3.map (fun q => Cond.not (Cond.eq (ssT q.1) (ssT q.2))) := by decide +kernel
def ssP_4 : List (Nat × Nat) := [(0, 5), (1, 5), (2, 5), (3, 5), (4, 5)]
set_option maxRecDepth 100000 in
theorem ssN_4 : ((flatC (Jvm.Cond.and given_1 narrow_1)).drop 216).take 5 = ssP_4.map (fun q => Cond.not (Cond.eq (ssT q.1) (ssT q.2))) := by decide +kernel
def ssP_5 : List (Nat × Nat) := [(0, 6), (1, 6), (2, 6), (3, 6), (4, 6), (5, 6)]
set_option maxRecDepth 100000 in
theorem ssN_5 : ((flatC (Jvm.Cond.and given_1 narrow_1)).drop 229).take 6 = ssP_5.map (fun q => Cond.not (Cond.eq (ssT q.1) (ssT q.2))) := by decide +kernel
def ssP_6 : List (Nat × Nat) := [(0, 7), (1, 7), (2, 7), (3, 7), (4, 7), (5, 7), (6, 7)]
set_option maxRecDepth 100000 in
theorem ssN_6 : ((flatC (Jvm.Cond.and given_1 narrow_1)).drop 241).take 7 = ssP_6.map (fun q => Cond.not (Cond.eq (ssT q.1) (ssT q.2))) := by decide +kernel
def ssP_7 : List (Nat × Nat) := [(0, 8), (1, 8), (2, 8), (3, 8), (4, 8), (5, 8), (6, 8), (7, 8)]
set_option maxRecDepth 100000 in
theorem ssN_7 : ((flatC (Jvm.Cond.and given_1 narrow_1)).drop 254).take 8 = ssP_7.map (fun q => Cond.not (Cond.eq (ssT q.1) (ssT q.2))) := by decide +kernel
def ssP_8 : List (Nat × Nat) := [(0, 9), (1, 9), (2, 9), (3, 9), (4, 9), (5, 9), (6, 9), (7, 9), (8, 9)]
set_option maxRecDepth 100000 in
theorem ssN_8 : ((flatC (Jvm.Cond.and given_1 narrow_1)).drop 268).take 9 = ssP_8.map (fun q => Cond.not (Cond.eq (ssT q.1) (ssT q.2))) := by decide +kernel
def ssP_9 : List (Nat × Nat) := [(0, 10), (1, 10), (2, 10), (3, 10), (4, 10), (5, 10), (6, 10), (7, 10), (8, 10), (9, 10)]
set_option maxRecDepth 100000 in
theorem ssN_9 : ((flatC (Jvm.Cond.and given_1 narrow_1)).drop 282).take 10 = ssP_9.map (fun q => Cond.not (Cond.eq (ssT q.1) (ssT q.2))) := by decide +kernel
def ssP_10 : List (Nat × Nat) := [(0, 11), (1, 11), (2, 11), (3, 11), (4, 11), (5, 11), (6, 11), (7, 11), (8, 11), (9, 11), (10, 11)]
set_option maxRecDepth 100000 in
theorem ssN_10 : ((flatC (Jvm.Cond.and given_1 narrow_1)).drop 300).take 11 = ssP_10.map (fun q => Cond.not (Cond.eq (ssT q.1) (ssT q.2))) := by decide +kernel
def ssP_11 : List (Nat × Nat) := [(0, 12), (1, 12), (2, 12), (3, 12), (4, 12), (5, 12), (6, 12), (7, 12), (8, 12), (9, 12), (10, 12), (11, 12)]
set_option maxRecDepth 100000 in
theorem ssN_11 : ((flatC (Jvm.Cond.and given_1 narrow_1)).drop 315).take 12 = ssP_11.map (fun q => Cond.not (Cond.eq (ssT q.1) (ssT q.2))) := by decide +kernel
def ssP : List (Nat × Nat) := ssP_0 ++ ssP_1 ++ ssP_2 ++ ssP_3 ++ ssP_4 ++ ssP_5 ++ ssP_6 ++ ssP_7 ++ ssP_8 ++ ssP_9 ++ ssP_10 ++ ssP_11
theorem ssP_on : (List.range 13).all (fun i => (List.range 13).all (fun j => decide (i = j) || decide ((i, j) ∈ ssP) || decide ((j, i) ∈ ssP))) = true := by decide +kernel
theorem ssC_in {i : Nat} {w : Cond} (hi : i < 13) (hw : w ∈ ssC i) : w ∈ flatC (Jvm.Cond.and given_1 narrow_1) := by
  have h : i = 0 ∨ i = 1 ∨ i = 2 ∨ i = 3 ∨ i = 4 ∨ i = 5 ∨ i = 6 ∨ i = 7 ∨ i = 8 ∨ i = 9 ∨ i = 10 ∨ i = 11 ∨ i = 12 := by omega
  rcases h with rfl | rfl | rfl | rfl | rfl | rfl | rfl | rfl | rfl | rfl | rfl | rfl | rfl
  · rw [← ssC_0] at hw
    exact List.mem_of_mem_drop (List.mem_of_mem_take hw)
  · rw [← ssC_1] at hw
    exact List.mem_of_mem_drop (List.mem_of_mem_take hw)
  · rw [← ssC_2] at hw
    exact List.mem_of_mem_drop (List.mem_of_mem_take hw)
  · rw [← ssC_3] at hw
    exact List.mem_of_mem_drop (List.mem_of_mem_take hw)
  · rw [← ssC_4] at hw
    exact List.mem_of_mem_drop (List.mem_of_mem_take hw)
  · rw [← ssC_5] at hw
    exact List.mem_of_mem_drop (List.mem_of_mem_take hw)
  · rw [← ssC_6] at hw
    exact List.mem_of_mem_drop (List.mem_of_mem_take hw)
  · rw [← ssC_7] at hw
    exact List.mem_of_mem_drop (List.mem_of_mem_take hw)
  · rw [← ssC_8] at hw
    exact List.mem_of_mem_drop (List.mem_of_mem_take hw)
  · rw [← ssC_9] at hw
    exact List.mem_of_mem_drop (List.mem_of_mem_take hw)
  · rw [← ssC_10] at hw
    exact List.mem_of_mem_drop (List.mem_of_mem_take hw)
  · rw [← ssC_11] at hw
    exact List.mem_of_mem_drop (List.mem_of_mem_take hw)
  · rw [← ssC_12] at hw
    exact List.mem_of_mem_drop (List.mem_of_mem_take hw)
theorem ssN_in {i j : Nat} (hi : i < 13) (hj : j < 13) (hij : i ≠ j) : Cond.not (Cond.eq (ssT i) (ssT j)) ∈ flatC (Jvm.Cond.and given_1 narrow_1) ∨ Cond.not (Cond.eq (ssT j) (ssT i)) ∈ flatC (Jvm.Cond.and given_1 narrow_1) := by
  have q := List.all_eq_true.mp (List.all_eq_true.mp ssP_on i (List.mem_range.mpr hi)) j (List.mem_range.mpr hj)
  simp only [Bool.or_eq_true, decide_eq_true_eq] at q
  have key : ∀ a b : Nat, (a, b) ∈ ssP → Cond.not (Cond.eq (ssT a) (ssT b)) ∈ flatC (Jvm.Cond.and given_1 narrow_1) := by
    intro a b h
    have key2 : ∀ (P : List (Nat × Nat)) (p n : Nat), ((flatC (Jvm.Cond.and given_1 narrow_1)).drop p).take n = P.map (fun q => Cond.not (Cond.eq (ssT q.1) (ssT q.2))) → (a, b) ∈ P → Cond.not (Cond.eq (ssT a) (ssT b)) ∈ flatC (Jvm.Cond.and given_1 narrow_1) := by
      intro P p n e hP
      have h2 : Cond.not (Cond.eq (ssT a) (ssT b)) ∈ P.map (fun q => Cond.not (Cond.eq (ssT q.1) (ssT q.2))) := List.mem_map.mpr ⟨(a, b), hP, rfl⟩
      rw [← e] at h2
      exact List.mem_of_mem_drop (List.mem_of_mem_take h2)
    unfold ssP at h
    simp only [List.mem_append] at h
    rcases h with ((((((((((h | h) | h) | h) | h) | h) | h) | h) | h) | h) | h) | h
    · exact key2 _ _ _ ssN_0 h
    · exact key2 _ _ _ ssN_1 h
    · exact key2 _ _ _ ssN_2 h
    · exact key2 _ _ _ ssN_3 h
    · exact key2 _ _ _ ssN_4 h
    · exact key2 _ _ _ ssN_5 h
    · exact key2 _ _ _ ssN_6 h
    · exact key2 _ _ _ ssN_7 h
    · exact key2 _ _ _ ssN_8 h
    · exact key2 _ _ _ ssN_9 h
    · exact key2 _ _ _ ssN_10 h
    · exact key2 _ _ _ ssN_11 h
  rcases q with (q | q) | q
  · exact absurd q hij
  · exact Or.inl (key i j q)
  · exact Or.inr (key j i q)

set_option maxRecDepth 100000 in
theorem stR_ok : (List.range 13).all (fun i => decide (Cond.stringRef "BreadTalk$Reader" ((mStL.map (fun q => q.1)).getD i 0) (stTx.getD i "") ∈ lw_tbl)) = true := by decide +kernel
set_option maxRecDepth 100000 in
theorem stS_ok : ([.eq (.static "java/lang/String" "COMPACT_STRINGS" "Z") (.int 1), .isRef (.static "jdk/internal/util/Preconditions" "SIOOBE_FORMATTER" "Ljava/util/function/BiFunction;")] : List Cond).all (fun w => decide (w ∈ flatC (Jvm.Cond.and given_1 narrow_1))) = true := by decide +kernel
set_option maxRecDepth 100000 in
theorem stL_ok : ([.laysStatic "java/lang/String" "COMPACT_STRINGS" "Z", .initialized "java/lang/String", .laysStatic "jdk/internal/util/Preconditions" "SIOOBE_FORMATTER" "Ljava/util/function/BiFunction;", .initialized "jdk/internal/util/Preconditions"] : List Cond).all (fun w => decide (w ∈ lw_tbl)) = true := by decide +kernel
theorem stI_ok : ∀ i, i < 13 → sLen.getD i 0 < 2 ^ 31 ∧ mSt 8 ((mStL.map (fun q => q.1)).getD i 0) = some i := by decide +kernel
theorem stI_on {idx j : Nat} (h : mSt 8 idx = some j) : j < 13 ∧ idx = (mStL.map (fun q => q.1)).getD j 0 := by
  have h1 := lookup_in (show mStL.lookup idx = some j from h)
  have h2 : ∀ q ∈ mStL, q.2 < 13 ∧ q.1 = (mStL.map (fun q => q.1)).getD q.2 0 := by decide +kernel
  exact h2 _ h1
theorem mS_start {s : State} {b : Nat} (hts : ∀ w ∈ lw_tbl, w.before #[Value.ref b] s = true) (hgv : (Jvm.Cond.and given_1 narrow_1).before #[Value.ref b] s = true) : ∃ ad : Nat → Nat, ∀ sa : Nat → Nat, (∀ j, j < 13 → sa j = ad j) → mS s.heap.size sa s := by
  have hs := flat_of_before _ hgv
  have hA : ∀ a : Nat, a < s.heap.size → ¬ (fun q => s.heap.size ≤ q) a := fun a ha q => Nat.not_le.mpr ha q
  have hC : ∀ i, i < 13 → ∀ w ∈ ssC i, w.before #[Value.ref b] s = true := fun i hi w hw => hs w (ssC_in hi hw)
  have hel : ∀ i, i < 13 → ∀ j, j < sLen.getD i 0 → (Cond.eq (.elem (ssV i) (.int (Int32.ofNat j))) (.int ((sBy.getD i []).getD j 0))).before #[Value.ref b] s = true := fun i hi j hj => hC i hi _ (List.mem_append.mpr (Or.inr (List.mem_map.mpr ⟨j, List.mem_range.mpr hj, rfl⟩)))
  have hne : ∀ i j : Nat, i < 13 → j < 13 → i ≠ j → (Cond.not (Cond.eq (ssT i) (ssT j))).before #[Value.ref b] s = true ∨ (Cond.not (Cond.eq (ssT j) (ssT i))).before #[Value.ref b] s = true := by
    intro i j hi hj hij
    rcases ssN_in hi hj hij with q | q
    · exact Or.inl (hs _ q)
    · exact Or.inr (hs _ q)
  obtain ⟨adK, adV, hS, hE⟩ := vk_Sof (N := 13) (tm := ssT) (len := sLen) (byt := sBy) (A := fun q => s.heap.size ≤ q) (fun i hi => (stI_ok i hi).1) (fun i hi => hC i hi _ (by simp [ssC])) (fun i hi => hC i hi _ (by simp [ssC])) (fun i hi => hC i hi _ (by simp [ssC])) (fun i hi => hC i hi _ (by simp [ssC])) hel hne hA
  have st := fun w hw => hs w (of_decide_eq_true (List.all_eq_true.mp stS_ok w hw))
  have sl := fun w hw => hts w (of_decide_eq_true (List.all_eq_true.mp stL_ok w hw))
  have z1 : va_Z "java/lang/String" "COMPACT_STRINGS" "Z" (.int 1) (fun q => s.heap.size ≤ q) s s.heap := va_Zof (sl _ (List.mem_of_getElem? (i := 0) rfl)) (sl _ (List.mem_of_getElem? (i := 1) rfl)) (va_eqt (st _ (List.mem_of_getElem? (i := 0) rfl))) hA
  have hr := st _ (List.mem_of_getElem? (i := 1) rfl)
  have z2 : va_Zq "jdk/internal/util/Preconditions" "SIOOBE_FORMATTER" "Ljava/util/function/BiFunction;" (fun q => s.heap.size ≤ q) s s.heap := by
    simp only [Cond.before, Cond.holds, Cond.value] at hr
    cases e : (Term.static "jdk/internal/util/Preconditions" "SIOOBE_FORMATTER" "Ljava/util/function/BiFunction;").eval #[Value.ref b] s none [] s with
    | none => rw [e] at hr; simp at hr
    | some v =>
      rw [e] at hr
      cases v with
      | ref x => exact Or.inr ⟨x, va_Zof (sl _ (List.mem_of_getElem? (i := 2) rfl)) (sl _ (List.mem_of_getElem? (i := 3) rfl)) e hA⟩
      | null => exact Or.inl (va_Zof (sl _ (List.mem_of_getElem? (i := 2) rfl)) (sl _ (List.mem_of_getElem? (i := 3) rfl)) e hA)
      | _ => simp [Value.isRef] at hr
  refine ⟨adK, fun sa hsa => ⟨fun j hj => ?_, fun idx j hj => ?_⟩⟩
  · obtain ⟨o1, o2, o3, o4⟩ := hS.1 j hj
    rw [hsa j hj]
    exact ⟨adV j, 0, o1, o2, o3, o4, z1, z2⟩
  · obtain ⟨j13, e⟩ := stI_on hj
    subst e
    rw [hsa j j13]
    have q := hts _ (of_decide_eq_true (List.all_eq_true.mp stR_ok j (List.mem_range.mpr j13)))
    exact ⟨_, vk_R.of q (hE j j13)⟩
/-- the claim's walk out of the small machine's run -/
theorem whole_of {p : Program} {e : Env} {s : State} {m : MethodId} {below : List Frame} {meth : Method} {c : Code} (l : Launch) {b L : Nat} {xs : Nat → Int32} (hrun : lawRuns xs L) (C0 : lw_At p s m meth c b L xs) : W p l e room_1 s m #[Value.ref b] below meth c s.heap [] 0 0 (lw_Z below #[Value.ref b] s) (entryFrame m ([Value.ref b] : List Value).toArray 4) := by
  obtain ⟨hx, hb, hr, hml, hown, hts, hX, hbl, hlocks, hgv⟩ := C0
  obtain ⟨n, H', hgo, hc, hsl⟩ := hrun
  obtain ⟨D, cA, hK⟩ := mK_start hts
  obtain ⟨ad, had⟩ := mS_start hts hgv
  have hSt := had (fun j => if j = 99 then b else ad j) (fun j hj => if_neg (by omega))
  have m0 : mmax 0 = 4 := by decide +kernel
  have mn : mcn (mown 0) = R_law := by decide +kernel
  have mc : mcn (mown 0) = (mname 0).cls := by decide +kernel
  have mi : (mname 0).name ≠ "<init>" := by decide +kernel
  have F : mF p s m #[Value.ref b] meth c 0 s.heap.size (fun j => if j = 99 then b else ad j) D cA xs L 1000 room_1 := ⟨hx, by rw [mbytes, if_pos rfl]; exact hb, by rw [m0]; exact hml, by rw [mn]; exact hown, fun q => absurd q mi, fun w hw => hts w (List.mem_filter.mp hw).1, hK, Nat.le_refl _, by decide, by decide, fun _ => ⟨hX, hbl⟩, hSt⟩
  have W0 : mW s.heap.size (fun j => if j = 99 then b else ad j) D cA (fun _ => none, 0, 0) s.heap := ⟨rfl, fun k c h => by cases h⟩
  have hrc : 1000 ≤ room_1.cells := by decide
  have hrs : 40000 ≤ room_1.slots := by decide
  have key := msound (base := s.heap.size) (sa := fun j => if j = 99 then b else ad j) (D := D) (cA := cA) l n 1000 0 0 _ [] _ _ H' hgo p e room_1 s m #[Value.ref b] below meth c (lw_Z below #[Value.ref b] s) 0 0 F mc (by show 0 + (H'.2.1 - 0) ≤ room_1.cells; omega) (by show 0 + (H'.2.2 - 0) ≤ room_1.slots; omega) (fun pc1 L1 st1 i1 ho hs ls1 Hr1 locs1 hl1 hn1 hW1 hS1 => by
    have hd := (mop_ok ho).1
    have hend : st1 = [.int 1] ∧ i1 = .ireturn := by
      rcases mret_ins hs with rfl | rfl | rfl | rfl
      · have hs : mretv 0 st1 = some (.inr (.inl (some (.int 1)))) := hs
        simp only [mretv] at hs
        repeat' split at hs
        all_goals first | (cases hs; done) | (cases hs; exact ⟨rfl, rfl⟩)
      · have hs : mretl 0 st1 = some (.inr (.inl (some (.int 1)))) := hs
        simp only [mretl] at hs
        repeat' split at hs
        all_goals cases hs
      · have hs : mreta 0 st1 = some (.inr (.inl (some (.int 1)))) := hs
        simp only [mreta] at hs
        repeat' split at hs
        all_goals cases hs
      · have hs : mretn 0 st1 = some (.inr (.inl (some (.int 1)))) := hs
        simp only [mretn] at hs
        repeat' split at hs
        all_goals cases hs
    obtain ⟨rfl, rfl⟩ := hend
    refine va_forget (fun q hq => hS1.2.2 q hq) (W.widen (k := room_1.cells) (n := room_1.slots) (by show 0 + (H'.2.1 - 0) ≤ room_1.cells; omega) (by show 0 + (H'.2.2 - 0) ≤ room_1.slots; omega) ?_)
    exact lw_ret hx hb hr hlocks (by rw [mbytes, if_pos rfl] at hd; exact hd))
  rw [lg_entry_eq]
  have hlen : (lg_sl ([Value.ref b] : List Value)).length ≤ 4 := Nat.le_of_ble_eq_true rfl
  have hl := lv_entry ([Value.ref b] : List Value) (n := 4) hlen
  refine key _ s.heap [] ?_ (by rw [m0]; rfl) W0 va_S.rf
  rw [m0]
  exact ⟨hl.1, hl.2.1, fun q hq => hl.2.2 q hq⟩
