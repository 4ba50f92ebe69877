/-! THE CLAIM OUT OF ONE WALK OF THE LAW'S BODY. Your part is whole_start (and what it stands on); all else here is the same for every law, but numbers. -/
def R_law : String := "BreadTalkLaw"
def lw_P (b : Addr) (xs : List Int32) (args : Array Value) (s : State) : Prop := args = #[.ref b] ∧ s.IntsAt b xs ∧ xs.length ≤ 3072 ∧ (Jvm.Cond.and given_1 narrow_1).before args s = true
def lw_Q (_ : Array Value) (s : State) (o : Outcome) (t : State) : Prop := o = .returned (some (.int 1)) ∧ Framed s o t [] room_1.cells room_1.slots
def lw_Z (below : List Frame) (a : Array Value) (s : State) : State → Prop := fun t => ∃ o, t.status = .running ∧ Ended t below o ∧ lw_Q a s o t
/-- the law's own end, with 1 on the stack, nothing written that was there before, its room as the claim has it -/
theorem lw_ret {p : Program} {l : Launch} {e : Env} {s : State} {m : MethodId} {below : List Frame} {meth : Method} {c : Code} {b : Nat} (hx : p.tables.exec = Jvm.exec) (hb : c.code = code) (hr : meth.sig.returnType = ret) (hlocks : meth.locks = false) {pc : Nat} {H : Heap} {ls : Array Slot} (hdg : decode code pc = .ok (.ireturn, 1)) : W p l e room_1 s m #[Value.ref b] below meth c H [] room_1.cells room_1.slots (lw_Z below #[Value.ref b] s) (F0 m pc ls [.int 1]) := by
  intro T hT X
  obtain ⟨fs, hret, hrun, hended, hW, hframe⟩ := X.leave (v := some (.int 1)) (hlocks := hlocks) (fun h => by rw [hr] at h; cases h)
  have hmeth' : T.vm.method? m = some meth := X.method'
  refine ⟨T.setFrames fs, ?_, .returned (some (.int 1)), hrun, hended, rfl, ⟨_, rfl⟩, hW, hframe⟩
  jvm_step X.here [X.here.top, hx, hb, hdg, hmeth', hr, ret, narrow_b1]
  (try refine ⟨rfl, ?_⟩); (try refine ⟨rfl, ?_⟩)
  first | (intro acts; rw [hret _ acts rfl rfl rfl]) | rw [hret _ _ rfl rfl rfl]
  exact Steps.refl _
/-- what holds at the law's entry: the machine, the code, the tables' words (any of lw_tbl by 'hts w (by decide +kernel)'), the script of L ints xs at the cell b, what the Statement gives of the start (any of its parts by flat_of_before) -/
def lw_At (p : Program) (s : State) (m : MethodId) (meth : Method) (c : Code) (b L : Nat) (xs : Nat → Int32) : Prop :=
  p.tables.exec = Jvm.exec ∧ c.code = code ∧ meth.sig.returnType = ret ∧ c.maxLocals = 4 ∧ s.vm.findClass R_law = some m.cls ∧ (∀ w ∈ lw_tbl, w.before #[Value.ref b] s = true) ∧ va_X b L xs s s.heap ∧ b < s.heap.size ∧ meth.locks = false ∧ (Jvm.Cond.and given_1 narrow_1).before #[Value.ref b] s = true
/-- what the pure run must show: the small machine's run of the law on the script ends with 1, within the room -/
def lawRuns (xs : Nat → Int32) (sl : Nat) : Prop := ∃ (n : Nat) (H' : mH), go xs sl n 1000 0 0 [some (.retAddr 99), none, none, none] [] (fun _ => none, 0, 0) = some (some (.int 1), H') ∧ H'.2.1 ≤ 1000 ∧ H'.2.2 ≤ 40000
theorem mK_start {s : State} {b : Nat} (hts : ∀ w ∈ lw_tbl, w.before #[Value.ref b] s = true) : ∃ (D : va_G) (cA : Nat → ClassId), mK D cA s := by
  have hcl : ∀ ci : Nat, ∃ (cC : ClassId) (iS : Nat → Nat), ci < 11 → u_Kn s (mfC ci).1 (mfC ci).2.1 (mfC ci).2.2 cC iS := by
    intro ci
    by_cases h : ci < 11
    · obtain ⟨hin, hins, -, -, -⟩ := mK_ok h
      obtain ⟨cC, iS, hk⟩ := u_known (ws := lw_tbl) hts (fun w hw => (List.mem_filter.mp (hin w hw)).1) (hts _ (List.mem_filter.mp hins).1)
      exact ⟨cC, iS, fun _ => hk⟩
    · exact ⟨0, fun _ => 0, fun q => absurd q h⟩
  have harr : ∀ ty : FieldType, Cond.arrayClass ty ∈ lw_tbl → refKind ty = false → ∃ cA : ClassId, ArrOfT s cA ty ∧ va_RA s cA ty := by
    intro ty hm hr
    obtain ⟨c, k, comp, h1, h2, h3⟩ := Cond.arrayClass_spec (hts _ hm)
    refine ⟨c, fun n z => ⟨fun q h => (by cases h), k, h2, comp, h3⟩, ?_⟩
    cases ty <;> first | exact h1 | (simp [refKind] at hr; done)
  have hover : ∀ C : String, Cond.arrayOver (.object C) ∈ lw_tbl → ∃ cA : ClassId, ArrOfT s cA (.object C) ∧ va_RA s cA (.object C) := by
    intro C hm
    obtain ⟨comp, c, k, h1, -, h2, h3, h4⟩ := Cond.arrayOver_spec (hts _ hm)
    exact ⟨c, fun n z => ⟨fun q h => (by cases h), k, h2, comp, h3⟩, k, comp, h2, h3, h1, h4⟩
  obtain ⟨a0, p0⟩ := harr .int (by decide +kernel) rfl
  obtain ⟨a1, p1⟩ := harr .byte (by decide +kernel) rfl
  obtain ⟨a2, p2⟩ := harr .boolean (by decide +kernel) rfl
  obtain ⟨a3, p3⟩ := harr .long (by decide +kernel) rfl
  have o4 : Cond.arrayOver (.object "BreadTalk$Town") ∈ lw_tbl := by decide +kernel
  have o5 : Cond.arrayOver (.object "BreadTalk$Days") ∈ lw_tbl := by decide +kernel
  have o6 : Cond.arrayOver (.object "BreadTalk$Plate") ∈ lw_tbl := by decide +kernel
  have o7 : Cond.arrayOver (.object "BreadTalk$Told") ∈ lw_tbl := by decide +kernel
  obtain ⟨a4, p4⟩ := hover _ o4
  obtain ⟨a5, p5⟩ := hover _ o5
  obtain ⟨a6, p6⟩ := hover _ o6
  obtain ⟨a7, p7⟩ := hover _ o7
  refine ⟨(fun ci => (hcl ci).choose, fun ci => (hcl ci).choose_spec.choose), fun t => [a0, a1, a2, a3, a4, a5, a6, a7].getD t 0, ⟨fun ci q hq => ?_, fun k q hq => ?_⟩, fun w hw hn => ?_, fun C hC => ?_⟩
  · have hlt : ci < 11 := (List.getElem?_eq_some_iff.mp hq).1
    have e := mfC_at hlt
    rw [hq] at e
    cases e
    exact (hcl ci).choose_spec.choose_spec hlt
  · have hlt : k < 8 := (List.getElem?_eq_some_iff.mp hq).1
    have h8 : k = 0 ∨ k = 1 ∨ k = 2 ∨ k = 3 ∨ k = 4 ∨ k = 5 ∨ k = 6 ∨ k = 7 := by omega
    rcases h8 with rfl | rfl | rfl | rfl | rfl | rfl | rfl | rfl
    · cases hq; exact p0
    · cases hq; exact p1
    · cases hq; exact p2
    · cases hq; exact p3
    · cases hq; exact p4
    · cases hq; exact p5
    · cases hq; exact p6
    · cases hq; exact p7
  · have h1 := hts w hw
    cases w <;> first | exact va_Nw.of rfl h1 | (simp [misNest] at hn; done)
  · simp only [marrC, List.mem_cons, List.not_mem_nil, or_false] at hC
    rcases hC with rfl | rfl | rfl | rfl
    · exact va_AO.of (hts _ o4)
    · exact va_AO.of (hts _ o5)
    · exact va_AO.of (hts _ o6)
    · exact va_AO.of (hts _ o7)
/-- the claim's walk out of the small machine's run -/
theorem whole_of {p : Program} {e : Env} {s : State} {m : MethodId} {below : List Frame} {meth : Method} {c : Code} (l : Launch) {b L : Nat} {xs : Nat → Int32} (hrun : lawRuns xs L) (C0 : lw_At p s m meth c b L xs) : W p l e room_1 s m #[Value.ref b] below meth c s.heap [] 0 0 (lw_Z below #[Value.ref b] s) (entryFrame m ([Value.ref b] : List Value).toArray 4) := by
  obtain ⟨hx, hb, hr, hml, hown, hts, hX, hbl, hlocks, hgv⟩ := C0
  obtain ⟨n, H', hgo, hc, hsl⟩ := hrun
  obtain ⟨D, cA, hK⟩ := mK_start hts
  have m0 : mmax 0 = 4 := by decide +kernel
  have mn : mcn (mown 0) = R_law := by decide +kernel
  have mc : mcn (mown 0) = (mname 0).cls := by decide +kernel
  have mi : (mname 0).name ≠ "<init>" := by decide +kernel
  have F : mF p s m #[Value.ref b] meth c 0 s.heap.size (fun _ => b) D cA xs L 1000 room_1 := ⟨hx, by rw [mbytes, if_pos rfl]; exact hb, by rw [m0]; exact hml, by rw [mn]; exact hown, fun q => absurd q mi, fun w hw => hts w (List.mem_filter.mp hw).1, hK, Nat.le_refl _, by decide, by decide, fun _ => ⟨hX, hbl⟩⟩
  have W0 : mW s.heap.size (fun _ => b) D cA (fun _ => none, 0, 0) s.heap := ⟨rfl, fun k c h => by cases h⟩
  have hrc : 1000 ≤ room_1.cells := by decide
  have hrs : 40000 ≤ room_1.slots := by decide
  have key := msound (base := s.heap.size) (sa := fun _ => b) (D := D) (cA := cA) l n 1000 0 0 _ [] _ _ H' hgo p e room_1 s m #[Value.ref b] below meth c (lw_Z below #[Value.ref b] s) 0 0 F mc (by show 0 + (H'.2.1 - 0) ≤ room_1.cells; omega) (by show 0 + (H'.2.2 - 0) ≤ room_1.slots; omega) (fun pc1 L1 st1 i1 ho hs ls1 Hr1 locs1 hl1 hn1 hW1 hS1 => by
    have hd := (mop_ok ho).1
    have hend : st1 = [.int 1] ∧ i1 = .ireturn := by
      rcases mret_ins hs with rfl | rfl | rfl | rfl
      · have hs : mretv 0 st1 = some (.inr (.inl (some (.int 1)))) := hs
        simp only [mretv] at hs
        repeat' split at hs
        all_goals first | (cases hs; done) | (cases hs; exact ⟨rfl, rfl⟩)
      · have hs : mretl 0 st1 = some (.inr (.inl (some (.int 1)))) := hs
        simp only [mretl] at hs
        repeat' split at hs
        all_goals cases hs
      · have hs : mreta 0 st1 = some (.inr (.inl (some (.int 1)))) := hs
        simp only [mreta] at hs
        repeat' split at hs
        all_goals cases hs
      · have hs : mretn 0 st1 = some (.inr (.inl (some (.int 1)))) := hs
        simp only [mretn] at hs
        repeat' split at hs
        all_goals cases hs
    obtain ⟨rfl, rfl⟩ := hend
    refine va_forget (fun q hq => hS1.2.2 q hq) (W.widen (k := room_1.cells) (n := room_1.slots) (by show 0 + (H'.2.1 - 0) ≤ room_1.cells; omega) (by show 0 + (H'.2.2 - 0) ≤ room_1.slots; omega) ?_)
    exact lw_ret hx hb hr hlocks (by rw [mbytes, if_pos rfl] at hd; exact hd))
  rw [lg_entry_eq]
  have hlen : (lg_sl ([Value.ref b] : List Value)).length ≤ 4 := Nat.le_of_ble_eq_true rfl
  have hl := lv_entry ([Value.ref b] : List Value) (n := 4) hlen
  refine key _ s.heap [] ?_ (by rw [m0]; rfl) W0 va_S.rf
  rw [m0]
  exact ⟨hl.1, hl.2.1, fun q hq => hl.2.2 q hq⟩
