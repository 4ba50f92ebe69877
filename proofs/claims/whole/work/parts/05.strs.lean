/-! STRING CONSTANTS: length() and charAt(), walked over the JDK's bytes; printed by wip/whole/gen05s.py -/
section STRS
variable {l : Launch} {A : Nat → Prop} {a dv N fm : Nat} {f : Nat → Int32}
abbrev yLen : MethodName := ⟨"java/lang/String", "length", "()I"⟩
abbrev bLen : ByteArray := prog_17_method_54_code
abbrev yCod : MethodName := ⟨"java/lang/String", "coder", "()B"⟩
abbrev bCod : ByteArray := prog_17_method_152_code
abbrev yChr : MethodName := ⟨"java/lang/String", "charAt", "(I)C"⟩
abbrev bChr : ByteArray := prog_17_method_56_code
abbrev yLat : MethodName := ⟨"java/lang/String", "isLatin1", "()Z"⟩
abbrev bLat : ByteArray := prog_17_method_154_code
abbrev ySL1 : MethodName := ⟨"java/lang/StringLatin1", "charAt", "([BI)C"⟩
abbrev bSL1 : ByteArray := prog_18_method_2_code
abbrev yChk : MethodName := ⟨"java/lang/String", "checkIndex", "(II)V"⟩
abbrev bChk : ByteArray := prog_17_method_155_code
abbrev yPre : MethodName := ⟨"jdk/internal/util/Preconditions", "checkIndex", "(IILjava/util/function/BiFunction;)I"⟩
abbrev bPre : ByteArray := prog_22_method_11_code
def sW : List Cond := [.code yLen bLen 1 (some .int), .code yCod bCod 1 (some .byte), .code yChr bChr 2 (some .char), .code yLat bLat 1 (some .boolean), .code ySL1 bSL1 2 (some .char), .code yChk bChk 2 (none), .code yPre bPre 3 (some .int), .instanceMethod yLen, .instanceMethod yCod, .instanceMethod yChr, .instanceMethod yLat, .selects "java/lang/String" yLen yLen, .selects "java/lang/String" yCod yCod, .selects "java/lang/String" yChr yChr, .selects "java/lang/String" yLat yLat, .static ySL1, .static yChk, .static yPre, .initialized "java/lang/String", .initialized "java/lang/StringLatin1", .initialized "jdk/internal/util/Preconditions", .fieldLink "java/lang/String" 38 "java/lang/String" "COMPACT_STRINGS" "Z", .fieldLink "java/lang/String" 1053 "jdk/internal/util/Preconditions" "SIOOBE_FORMATTER" "Ljava/util/function/BiFunction;", .fieldLink "java/lang/String" 9 "java/lang/String" "value" "[B", .fieldLink "java/lang/String" 15 "java/lang/String" "coder" "B", .methodLink "java/lang/String" 335 yCod, .methodLink "java/lang/String" 492 yLat, .methodLink "java/lang/String" 495 ySL1, .methodLink "java/lang/StringLatin1" 9 yChk, .methodLink "java/lang/String" 1059 yPre]
set_option maxRecDepth 100000 in
theorem sW_ok : sW.all mmem = true := by decide +kernel
theorem sW_in {c : Cond} (i : Nat) (h : sW[i]? = some c) : c ∈ lw_tbl.filter goodWord := mmem_ok (List.all_eq_true.mp sW_ok c (List.mem_of_getElem? h))
def sWS (y : MethodName) (b : ByteArray) (n : Nat) (r : Option FieldType) : List Cond := .code y b n r :: lw_tbl.filter goodWord
theorem dCod_0 : decode bCod 0 = .ok (.getstatic 38, 3) := by decide +kernel
theorem dCod_3 : decode bCod 3 = .ok (.ifCond .eq 10, 3) := by decide +kernel
theorem dCod_6 : decode bCod 6 = .ok (.aload_n 0, 1) := by decide +kernel
theorem dCod_7 : decode bCod 7 = .ok (.getfield 15, 3) := by decide +kernel
theorem dCod_10 : decode bCod 10 = .ok (.goto 4, 3) := by decide +kernel
theorem dCod_14 : decode bCod 14 = .ok (.ireturn, 1) := by decide +kernel
theorem dLat_0 : decode bLat 0 = .ok (.getstatic 38, 3) := by decide +kernel
theorem dLat_3 : decode bLat 3 = .ok (.ifCond .eq 14, 3) := by decide +kernel
theorem dLat_6 : decode bLat 6 = .ok (.aload_n 0, 1) := by decide +kernel
theorem dLat_7 : decode bLat 7 = .ok (.getfield 15, 3) := by decide +kernel
theorem dLat_10 : decode bLat 10 = .ok (.ifCond .ne 7, 3) := by decide +kernel
theorem dLat_13 : decode bLat 13 = .ok (.iconst 1, 1) := by decide +kernel
theorem dLat_14 : decode bLat 14 = .ok (.goto 4, 3) := by decide +kernel
theorem dLat_18 : decode bLat 18 = .ok (.ireturn, 1) := by decide +kernel
theorem dLen_0 : decode bLen 0 = .ok (.aload_n 0, 1) := by decide +kernel
theorem dLen_1 : decode bLen 1 = .ok (.getfield 9, 3) := by decide +kernel
theorem dLen_4 : decode bLen 4 = .ok (.arraylength, 1) := by decide +kernel
theorem dLen_5 : decode bLen 5 = .ok (.aload_n 0, 1) := by decide +kernel
theorem dLen_6 : decode bLen 6 = .ok (.invokevirtual 335, 3) := by decide +kernel
theorem dLen_9 : decode bLen 9 = .ok (.ishr, 1) := by decide +kernel
theorem dLen_10 : decode bLen 10 = .ok (.ireturn, 1) := by decide +kernel
theorem dPre_0 : decode bPre 0 = .ok (.iload_n 0, 1) := by decide +kernel
theorem dPre_1 : decode bPre 1 = .ok (.ifCond .lt 8, 3) := by decide +kernel
theorem dPre_4 : decode bPre 4 = .ok (.iload_n 0, 1) := by decide +kernel
theorem dPre_5 : decode bPre 5 = .ok (.iload_n 1, 1) := by decide +kernel
theorem dPre_6 : decode bPre 6 = .ok (.if_icmp .lt 10, 3) := by decide +kernel
theorem dPre_16 : decode bPre 16 = .ok (.iload_n 0, 1) := by decide +kernel
theorem dPre_17 : decode bPre 17 = .ok (.ireturn, 1) := by decide +kernel
theorem dChk_0 : decode bChk 0 = .ok (.iload_n 0, 1) := by decide +kernel
theorem dChk_1 : decode bChk 1 = .ok (.iload_n 1, 1) := by decide +kernel
theorem dChk_2 : decode bChk 2 = .ok (.getstatic 1053, 3) := by decide +kernel
theorem dChk_5 : decode bChk 5 = .ok (.invokestatic 1059, 3) := by decide +kernel
theorem dChk_8 : decode bChk 8 = .ok (.pop, 1) := by decide +kernel
theorem dChk_9 : decode bChk 9 = .ok (.return_, 1) := by decide +kernel
theorem dSL1_0 : decode bSL1 0 = .ok (.iload_n 1, 1) := by decide +kernel
theorem dSL1_1 : decode bSL1 1 = .ok (.aload_n 0, 1) := by decide +kernel
theorem dSL1_2 : decode bSL1 2 = .ok (.arraylength, 1) := by decide +kernel
theorem dSL1_3 : decode bSL1 3 = .ok (.invokestatic 9, 3) := by decide +kernel
theorem dSL1_6 : decode bSL1 6 = .ok (.aload_n 0, 1) := by decide +kernel
theorem dSL1_7 : decode bSL1 7 = .ok (.iload_n 1, 1) := by decide +kernel
theorem dSL1_8 : decode bSL1 8 = .ok (.baload, 1) := by decide +kernel
theorem dSL1_9 : decode bSL1 9 = .ok (.sipush 255, 3) := by decide +kernel
theorem dSL1_12 : decode bSL1 12 = .ok (.iand, 1) := by decide +kernel
theorem dSL1_13 : decode bSL1 13 = .ok (.i2c, 1) := by decide +kernel
theorem dSL1_14 : decode bSL1 14 = .ok (.ireturn, 1) := by decide +kernel
theorem dChr_0 : decode bChr 0 = .ok (.aload_n 0, 1) := by decide +kernel
theorem dChr_1 : decode bChr 1 = .ok (.invokevirtual 492, 3) := by decide +kernel
theorem dChr_4 : decode bChr 4 = .ok (.ifCond .eq 12, 3) := by decide +kernel
theorem dChr_7 : decode bChr 7 = .ok (.aload_n 0, 1) := by decide +kernel
theorem dChr_8 : decode bChr 8 = .ok (.getfield 9, 3) := by decide +kernel
theorem dChr_11 : decode bChr 11 = .ok (.iload_n 1, 1) := by decide +kernel
theorem dChr_12 : decode bChr 12 = .ok (.invokestatic 495, 3) := by decide +kernel
theorem dChr_15 : decode bChr 15 = .ok (.ireturn, 1) := by decide +kernel
/-- a constant at a, its bytes at dv; the two statics that its methods look at -/
def sOK (a dv N fm : Nat) (f : Nat → Int32) (A : Nat → Prop) (U : State) : Prop := va_O "java/lang/String" a A U U.heap ∧ va_OF "java/lang/String" "coder" "B" (.int 0) a A U U.heap ∧ va_OF "java/lang/String" "value" "[B" (.ref dv) a A U U.heap ∧ va_T .byte dv N (fun j => .int (f j)) A U U.heap ∧ va_Z "java/lang/String" "COMPACT_STRINGS" "Z" (.int 1) A U U.heap ∧ va_Zq "jdk/internal/util/Preconditions" "SIOOBE_FORMATTER" "Ljava/util/function/BiFunction;" A U U.heap
theorem sOK.go {s U : State} {H : Heap} {locs : List Loc} (h : sOK a dv N fm f A s) (hW : s.WarmedH U.vm) (hU : U.heap = H) (hS : va_S A s.heap H locs) : sOK a dv N fm f A U := by
  subst hU
  obtain ⟨h1, h2, h3, h4, h5, h6⟩ := h
  exact ⟨va_O.moved hW.alike (h1.kept hS.2.1), va_OF.moved hW.alike (h2.kept hS.2.1), va_OF.moved hW.alike (h3.kept hS.2.1), va_T.moved hW.alike (h4.kept hS.2.1), va_Z.moved hW.alike (h5.kept hS.2.1), h6.imp (fun h => va_Z.moved hW.alike (h.kept hS.2.1)) (fun h => h.imp (fun t h => va_Z.moved hW.alike (h.kept hS.2.1)))⟩
theorem sOK.calling {U : State} {g : JFrame} {mk : MethodId} {v : Array Value} (h : sOK a dv N fm f A U) : sOK a dv N fm f A (U.calling g mk v) := by
  obtain ⟨h1, h2, h3, h4, h5, h6⟩ := h
  exact ⟨va_O.moved (u := U) (U := U.calling g mk v) (Vm.Alike.refl U.vm) h1, va_OF.moved (u := U) (U := U.calling g mk v) (Vm.Alike.refl U.vm) h2, va_OF.moved (u := U) (U := U.calling g mk v) (Vm.Alike.refl U.vm) h3, va_T.moved (u := U) (U := U.calling g mk v) (Vm.Alike.refl U.vm) h4, va_Z.moved (u := U) (U := U.calling g mk v) (Vm.Alike.refl U.vm) h5, h6.imp (fun h => va_Z.moved (u := U) (U := U.calling g mk v) (Vm.Alike.refl U.vm) h) (fun h => h.imp (fun t h => va_Z.moved (u := U) (U := U.calling g mk v) (Vm.Alike.refl U.vm) h))⟩
def sPc (As : List Value) (P : State → Prop) : Array Value → State → Prop := fun v U => v = As.toArray ∧ P U
def sQc (r : Option Value) : Array Value → State → Outcome → State → Prop := fun _ st oc t => oc = .returned r ∧ t.heap = st.heap
theorem sPc_blind {As : List Value} : FrameBlind (sPc As (sOK a dv N fm f A)) := fun _ _ _ _ q => ⟨q.1, q.2.calling⟩
theorem sPc_blindT {As : List Value} : FrameBlind (sPc As (fun _ => True)) := fun _ _ _ _ q => ⟨q.1, trivial⟩
theorem scall {p : Program} {e : Env} {R : Room} {s : State} {m : MethodId} {args : Array Value} {below : List Frame} {meth : Method} {c : Code} {Q : State → Prop} {H : Heap} {locs : List Loc} {cells slots pc : Nat} {ls : Array Slot} {st0 rest : List Value} {r : Option Value} {v0 : Array Value} (hr : va_Run p l e R s m args below meth c H locs cells slots 0 0 (F0 m pc ls st0) rest (sQc r v0) (fun _ => False)) (kk : W p l e R s m args below meth c H locs cells slots Q (F0 m (pc + 3) ls (r.toList ++ rest))) : W p l e R s m args below meth c H locs cells slots Q (F0 m pc ls st0) := by
  intro T hT X
  obtain ⟨v, st₀, t, T', Lc, h0, X', hL, e1, e2, ⟨hv, hw⟩, stp⟩ := hr T hT X
  cases hv
  have hLc : Lc = [] := List.eq_nil_iff_forall_not_mem.mpr (fun q hq => hL q hq)
  subst hLc
  rw [List.append_nil, Nat.add_zero, Nat.add_zero] at X'
  obtain ⟨t2, a1, b1⟩ := kk T' (by rw [e1, hw, h0]) X'
  exact ⟨t2, stp t2 a1, b1⟩
theorem sgV {own C : String} {idx n : Nat} {y : MethodName} {b : ByteArray} {r : Option FieldType} (h1 : Cond.methodLink own idx y ∈ lw_tbl.filter goodWord) (h2 : Cond.instanceMethod y ∈ lw_tbl.filter goodWord) (h3 : Cond.selects C y y ∈ lw_tbl.filter goodWord) (h4 : Cond.initialized C ∈ lw_tbl.filter goodWord) (h5 : Cond.code y b n r ∈ lw_tbl.filter goodWord) : GoodIn (lw_tbl.filter goodWord) (wsV own idx C y (sWS y b n r)) := by
  have key : ∀ w ∈ wsV own idx C y (sWS y b n r), w ∈ lw_tbl.filter goodWord := by
    intro w hw
    unfold wsV sWS at hw
    rcases List.mem_append.mp hw with h | h
    · simp only [List.mem_cons, List.not_mem_nil, or_false] at h
      rcases h with rfl | rfl | rfl | rfl
      · exact h1
      · exact h2
      · exact h3
      · exact h4
    · rcases List.mem_cons.mp h with rfl | h
      · exact h5
      · exact h
  exact fun w hw => ⟨key w hw, good_of_word (List.mem_filter.mp (key w hw)).2⟩
theorem sgS {own : String} {idx n : Nat} {y : MethodName} {b : ByteArray} {r : Option FieldType} (h1 : Cond.methodLink own idx y ∈ lw_tbl.filter goodWord) (h2 : Cond.static y ∈ lw_tbl.filter goodWord) (h3 : Cond.initialized y.cls ∈ lw_tbl.filter goodWord) (h5 : Cond.code y b n r ∈ lw_tbl.filter goodWord) : GoodIn (lw_tbl.filter goodWord) (va_wsS own idx y (sWS y b n r)) := by
  have key : ∀ w ∈ va_wsS own idx y (sWS y b n r), w ∈ lw_tbl.filter goodWord := by
    intro w hw
    unfold va_wsS sWS at hw
    rcases List.mem_append.mp hw with h | h
    · simp only [List.mem_cons, List.not_mem_nil, or_false] at h
      rcases h with rfl | rfl | rfl
      · exact h1
      · exact h2
      · exact h3
    · rcases List.mem_cons.mp h with rfl | h
      · exact h5
      · exact h
  exact fun w hw => ⟨key w hw, good_of_word (List.mem_filter.mp (key w hw)).2⟩
theorem shr0 (x : Int32) : x >>> ((0 : Int32) &&& 31) = x := by
  rw [show (0 : Int32) &&& 31 = 0 by decide]
  exact Int32.shiftRight_zero
theorem c_cod  : Met l yCod (sWS yCod bCod 1 (some .byte)) ({ frames := 0, cells := 0, slots := 0, locals := 0 }) (sPc [.ref a] (sOK a dv N fm f A)) (sQc (some (.int 0))) 0 0 (fun _ => False) := by
  refine Met.ofW (cc := bCod) (maxL := 1) (ret := some .byte) (by decide) rfl ?_
  intro p e s m args below meth c s₁ B hml hv
  obtain ⟨rfl, hok⟩ := hv
  obtain ⟨h1, h2, h3, h4, h5, h6⟩ := id hok
  have hx := B.exec
  have hb := B.bytes
  have hr := B.returns
  have hlocks := B.notSynchronized
  have hts := atoms_spec (ws := sWS yCod bCod 1 (some .byte)) B.pre
  have hT : ∀ w ∈ lw_tbl.filter goodWord, w.before [.ref a].toArray s = true := fun w hw => hts w (List.mem_cons_of_mem _ hw)
  have hown : s.vm.findClass "java/lang/String" = some m.cls := findClass_of_methodNamed B.named
  have hS : va_S A s.heap s.heap [] := va_S.rf
  have hl := lv_entry ([.ref a]) (n := 1) (Nat.le_of_ble_eq_true rfl)
  rw [lg_entry_eq]
  generalize (lg_sl ([.ref a]) ++ List.replicate (1 - (lg_sl ([.ref a])).length) Slot.unset).toArray = ls at hl ⊢
  have hl : lv_has ls 1 [(0, .ref a)] := hl
  have hrecv : ∃ cellB : Cell, s.heap[a]? = some cellB ∧ cellB.vm.isStatics = false ∧ s.vm.findClass "java/lang/String" = some cellB.cls := by
    obtain ⟨cell, k1, k2, k3, -⟩ := h1
    exact ⟨cell, k1, k2, k3⟩
  refine va_gets hx hb h5 hS hown (hT _ (sW_in 21 rfl)) (fun _ h => h) dCod_0 ?_
  refine lv_if_eq hx hb dCod_3 (tgt := 13) (by decide) (fun q => absurd q (by decide)) (fun _ => ?_)
  refine lv_aload_n hx hb dCod_6 rfl (lv_at hl 0 rfl) ?_
  refine vk_getf hx hb h2 hS hown (hT _ (sW_in 24 rfl)) (fun _ h => h) dCod_7 ?_
  refine lv_goto hx hb dCod_10 (tgt := 14) (by decide) ?_
  exact W.zret (ty := .byte) hx hb hr (by decide) (fun t ht _ => ⟨rfl, ht⟩) (fun q hq => absurd hq List.not_mem_nil) dCod_14
theorem c_lat  : Met l yLat (sWS yLat bLat 1 (some .boolean)) ({ frames := 0, cells := 0, slots := 0, locals := 0 }) (sPc [.ref a] (sOK a dv N fm f A)) (sQc (some (.int 1))) 0 0 (fun _ => False) := by
  refine Met.ofW (cc := bLat) (maxL := 1) (ret := some .boolean) (by decide) rfl ?_
  intro p e s m args below meth c s₁ B hml hv
  obtain ⟨rfl, hok⟩ := hv
  obtain ⟨h1, h2, h3, h4, h5, h6⟩ := id hok
  have hx := B.exec
  have hb := B.bytes
  have hr := B.returns
  have hlocks := B.notSynchronized
  have hts := atoms_spec (ws := sWS yLat bLat 1 (some .boolean)) B.pre
  have hT : ∀ w ∈ lw_tbl.filter goodWord, w.before [.ref a].toArray s = true := fun w hw => hts w (List.mem_cons_of_mem _ hw)
  have hown : s.vm.findClass "java/lang/String" = some m.cls := findClass_of_methodNamed B.named
  have hS : va_S A s.heap s.heap [] := va_S.rf
  have hl := lv_entry ([.ref a]) (n := 1) (Nat.le_of_ble_eq_true rfl)
  rw [lg_entry_eq]
  generalize (lg_sl ([.ref a]) ++ List.replicate (1 - (lg_sl ([.ref a])).length) Slot.unset).toArray = ls at hl ⊢
  have hl : lv_has ls 1 [(0, .ref a)] := hl
  have hrecv : ∃ cellB : Cell, s.heap[a]? = some cellB ∧ cellB.vm.isStatics = false ∧ s.vm.findClass "java/lang/String" = some cellB.cls := by
    obtain ⟨cell, k1, k2, k3, -⟩ := h1
    exact ⟨cell, k1, k2, k3⟩
  refine va_gets hx hb h5 hS hown (hT _ (sW_in 21 rfl)) (fun _ h => h) dLat_0 ?_
  refine lv_if_eq hx hb dLat_3 (tgt := 17) (by decide) (fun q => absurd q (by decide)) (fun _ => ?_)
  refine lv_aload_n hx hb dLat_6 rfl (lv_at hl 0 rfl) ?_
  refine vk_getf hx hb h2 hS hown (hT _ (sW_in 24 rfl)) (fun _ h => h) dLat_7 ?_
  refine lv_if_ne hx hb dLat_10 (tgt := 17) (by decide) (fun q => absurd rfl q) (fun _ => ?_)
  refine lv_iconst (v := 1) hx hb dLat_13 (by decide) ?_
  refine lv_goto hx hb dLat_14 (tgt := 18) (by decide) ?_
  exact W.zret (ty := .boolean) hx hb hr (by decide) (fun t ht _ => ⟨rfl, ht⟩) (fun q hq => absurd hq List.not_mem_nil) dLat_18
theorem c_len  : Met l yLen (sWS yLen bLen 1 (some .int)) ({ frames := 1, cells := 0, slots := 0, locals := 20 }) (sPc [.ref a] (sOK a dv N fm f A)) (sQc (some (.int (Int32.ofNat N)))) 0 0 (fun _ => False) := by
  refine Met.ofW (cc := bLen) (maxL := 1) (ret := some .int) (by decide) rfl ?_
  intro p e s m args below meth c s₁ B hml hv
  obtain ⟨rfl, hok⟩ := hv
  obtain ⟨h1, h2, h3, h4, h5, h6⟩ := id hok
  have hx := B.exec
  have hb := B.bytes
  have hr := B.returns
  have hlocks := B.notSynchronized
  have hts := atoms_spec (ws := sWS yLen bLen 1 (some .int)) B.pre
  have hT : ∀ w ∈ lw_tbl.filter goodWord, w.before [.ref a].toArray s = true := fun w hw => hts w (List.mem_cons_of_mem _ hw)
  have hown : s.vm.findClass "java/lang/String" = some m.cls := findClass_of_methodNamed B.named
  have hS : va_S A s.heap s.heap [] := va_S.rf
  have hl := lv_entry ([.ref a]) (n := 1) (Nat.le_of_ble_eq_true rfl)
  rw [lg_entry_eq]
  generalize (lg_sl ([.ref a]) ++ List.replicate (1 - (lg_sl ([.ref a])).length) Slot.unset).toArray = ls at hl ⊢
  have hl : lv_has ls 1 [(0, .ref a)] := hl
  have hrecv : ∃ cellB : Cell, s.heap[a]? = some cellB ∧ cellB.vm.isStatics = false ∧ s.vm.findClass "java/lang/String" = some cellB.cls := by
    obtain ⟨cell, k1, k2, k3, -⟩ := h1
    exact ⟨cell, k1, k2, k3⟩
  refine lv_aload_n hx hb dLen_0 rfl (lv_at hl 0 rfl) ?_
  refine vk_getf hx hb h3 hS hown (hT _ (sW_in 23 rfl)) (fun _ h => h) dLen_1 ?_
  refine va_tlen hx hb h4 hS (v := Int32.ofNat N) rfl dLen_4 ?_
  refine lv_aload_n hx hb dLen_5 rfl (lv_at hl 0 rfl) ?_
  refine scall (va_runV (C := "java/lang/String") (As := []) (b := a) (rest := [.int (Int32.ofNat N)]) ⟨hx, hb, hml, hown, hT⟩ (c_cod (l := l) (A := A) (a := a) (dv := dv) (N := N) (fm := fm) (f := f)) (cwV 0 hT (sgV (sW_in 25 rfl) (sW_in 8 rfl) (sW_in 12 rfl) (sW_in 18 rfl) (sW_in 1 rfl)) rfl rfl rfl ⟨rfl, by decide, by decide, by decide +kernel⟩ ⟨by decide, by decide⟩) ⟨sPc_blind, hrecv, fun U hU hW => ⟨rfl, hok.go hW hU hS⟩⟩ rfl rfl hl.1 rfl (lv_room (Nat.le_of_ble_eq_true rfl)) dLen_6 ⟨Nat.le_refl _, Nat.le_refl _⟩) ?_
  refine lv_ishr hx hb dLen_9 ?_
  rw [shr0]
  exact W.iret hx hb hr (fun t ht _ => ⟨rfl, ht⟩) (fun q hq => absurd hq List.not_mem_nil) dLen_10
theorem c_pre {i n : Int32} (hi : ¬ i < 0) (hn : i < n) : Met l yPre (sWS yPre bPre 3 (some .int)) ({ frames := 0, cells := 0, slots := 0, locals := 0 }) (sPc [.int i, .int n, .ref fm] (fun _ => True)) (sQc (some (.int i))) 0 0 (fun _ => False) := by
  refine Met.ofW (cc := bPre) (maxL := 3) (ret := some .int) (by decide) rfl ?_
  intro p e s m args below meth c s₁ B hml hv
  obtain ⟨rfl, hok⟩ := hv
  have hx := B.exec
  have hb := B.bytes
  have hr := B.returns
  have hlocks := B.notSynchronized
  have hts := atoms_spec (ws := sWS yPre bPre 3 (some .int)) B.pre
  have hT : ∀ w ∈ lw_tbl.filter goodWord, w.before [.int i, .int n, .ref fm].toArray s = true := fun w hw => hts w (List.mem_cons_of_mem _ hw)
  have hown : s.vm.findClass "jdk/internal/util/Preconditions" = some m.cls := findClass_of_methodNamed B.named
  have hl := lv_entry ([.int i, .int n, .ref fm]) (n := 3) (Nat.le_of_ble_eq_true rfl)
  rw [lg_entry_eq]
  generalize (lg_sl ([.int i, .int n, .ref fm]) ++ List.replicate (3 - (lg_sl ([.int i, .int n, .ref fm])).length) Slot.unset).toArray = ls at hl ⊢
  have hl : lv_has ls 3 [(0, .int i), (1, .int n), (2, .ref fm)] := hl
  refine lv_iload_n hx hb dPre_0 rfl (lv_at hl 0 rfl) ?_
  refine lv_if_lt hx hb dPre_1 (tgt := 9) (by decide) (fun q => absurd q hi) (fun _ => ?_)
  refine lv_iload_n hx hb dPre_4 rfl (lv_at hl 0 rfl) ?_
  refine lv_iload_n hx hb dPre_5 rfl (lv_at hl 1 rfl) ?_
  refine lv_icmp_lt hx hb dPre_6 (tgt := 16) (by decide) (fun _ => ?_) (fun q => absurd hn q)
  refine lv_iload_n hx hb dPre_16 rfl (lv_at hl 0 rfl) ?_
  exact W.iret hx hb hr (fun t ht _ => ⟨rfl, ht⟩) (fun q hq => absurd hq List.not_mem_nil) dPre_17
theorem c_preN {i n : Int32} (hi : ¬ i < 0) (hn : i < n) : Met l yPre (sWS yPre bPre 3 (some .int)) ({ frames := 0, cells := 0, slots := 0, locals := 0 }) (sPc [.int i, .int n, .null] (fun _ => True)) (sQc (some (.int i))) 0 0 (fun _ => False) := by
  refine Met.ofW (cc := bPre) (maxL := 3) (ret := some .int) (by decide) rfl ?_
  intro p e s m args below meth c s₁ B hml hv
  obtain ⟨rfl, hok⟩ := hv
  have hx := B.exec
  have hb := B.bytes
  have hr := B.returns
  have hlocks := B.notSynchronized
  have hts := atoms_spec (ws := sWS yPre bPre 3 (some .int)) B.pre
  have hT : ∀ w ∈ lw_tbl.filter goodWord, w.before [.int i, .int n, .null].toArray s = true := fun w hw => hts w (List.mem_cons_of_mem _ hw)
  have hown : s.vm.findClass "jdk/internal/util/Preconditions" = some m.cls := findClass_of_methodNamed B.named
  have hl := lv_entry ([.int i, .int n, .null]) (n := 3) (Nat.le_of_ble_eq_true rfl)
  rw [lg_entry_eq]
  generalize (lg_sl ([.int i, .int n, .null]) ++ List.replicate (3 - (lg_sl ([.int i, .int n, .null])).length) Slot.unset).toArray = ls at hl ⊢
  have hl : lv_has ls 3 [(0, .int i), (1, .int n), (2, .null)] := hl
  refine lv_iload_n hx hb dPre_0 rfl (lv_at hl 0 rfl) ?_
  refine lv_if_lt hx hb dPre_1 (tgt := 9) (by decide) (fun q => absurd q hi) (fun _ => ?_)
  refine lv_iload_n hx hb dPre_4 rfl (lv_at hl 0 rfl) ?_
  refine lv_iload_n hx hb dPre_5 rfl (lv_at hl 1 rfl) ?_
  refine lv_icmp_lt hx hb dPre_6 (tgt := 16) (by decide) (fun _ => ?_) (fun q => absurd hn q)
  refine lv_iload_n hx hb dPre_16 rfl (lv_at hl 0 rfl) ?_
  exact W.iret hx hb hr (fun t ht _ => ⟨rfl, ht⟩) (fun q hq => absurd hq List.not_mem_nil) dPre_17
theorem c_chk {i n : Int32} (hi : ¬ i < 0) (hn : i < n) : Met l yChk (sWS yChk bChk 2 (none)) ({ frames := 1, cells := 0, slots := 0, locals := 22 }) (sPc [.int i, .int n] (sOK a dv N fm f A)) (sQc none) 0 0 (fun _ => False) := by
  refine Met.ofW (cc := bChk) (maxL := 2) (ret := none) (by decide) rfl ?_
  intro p e s m args below meth c s₁ B hml hv
  obtain ⟨rfl, hok⟩ := hv
  obtain ⟨h1, h2, h3, h4, h5, h6⟩ := id hok
  have hx := B.exec
  have hb := B.bytes
  have hr := B.returns
  have hlocks := B.notSynchronized
  have hts := atoms_spec (ws := sWS yChk bChk 2 (none)) B.pre
  have hT : ∀ w ∈ lw_tbl.filter goodWord, w.before [.int i, .int n].toArray s = true := fun w hw => hts w (List.mem_cons_of_mem _ hw)
  have hown : s.vm.findClass "java/lang/String" = some m.cls := findClass_of_methodNamed B.named
  have hS : va_S A s.heap s.heap [] := va_S.rf
  have hl := lv_entry ([.int i, .int n]) (n := 2) (Nat.le_of_ble_eq_true rfl)
  rw [lg_entry_eq]
  generalize (lg_sl ([.int i, .int n]) ++ List.replicate (2 - (lg_sl ([.int i, .int n])).length) Slot.unset).toArray = ls at hl ⊢
  have hl : lv_has ls 2 [(0, .int i), (1, .int n)] := hl
  have hrecv : ∃ cellB : Cell, s.heap[a]? = some cellB ∧ cellB.vm.isStatics = false ∧ s.vm.findClass "java/lang/String" = some cellB.cls := by
    obtain ⟨cell, k1, k2, k3, -⟩ := h1
    exact ⟨cell, k1, k2, k3⟩
  refine lv_iload_n hx hb dChk_0 rfl (lv_at hl 0 rfl) ?_
  refine lv_iload_n hx hb dChk_1 rfl (lv_at hl 1 rfl) ?_
  rcases h6 with h6 | ⟨fq, h6⟩
  · refine va_gets hx hb h6 hS hown (hT _ (sW_in 22 rfl)) (fun _ h => h) dChk_2 ?_
    refine scall (va_runS (As := [.int i, .int n, .null]) (rest := []) ⟨hx, hb, hml, hown, hT⟩ (c_preN (l := l) hi hn) (va_cwS 3 hT (sgS (sW_in 29 rfl) (sW_in 17 rfl) (sW_in 20 rfl) (sW_in 6 rfl)) rfl rfl rfl ⟨by decide, by decide, by decide +kernel⟩ ⟨by decide, by decide⟩) ⟨sPc_blindT, fun U hU hW => ⟨rfl, trivial⟩⟩ rfl rfl hl.1 rfl (lv_room (Nat.le_of_ble_eq_true rfl)) dChk_5 ⟨Nat.le_refl _, Nat.le_refl _⟩) ?_
    refine lv_pop hx hb dChk_8 rfl ?_
    exact W.vret hx hb hr (fun t ht _ => ⟨rfl, ht⟩) (fun q hq => absurd hq List.not_mem_nil) dChk_9
  · refine va_gets hx hb h6 hS hown (hT _ (sW_in 22 rfl)) (fun _ h => h) dChk_2 ?_
    refine scall (va_runS (As := [.int i, .int n, .ref fq]) (rest := []) ⟨hx, hb, hml, hown, hT⟩ (c_pre (l := l) (fm := fq) hi hn) (va_cwS 3 hT (sgS (sW_in 29 rfl) (sW_in 17 rfl) (sW_in 20 rfl) (sW_in 6 rfl)) rfl rfl rfl ⟨by decide, by decide, by decide +kernel⟩ ⟨by decide, by decide⟩) ⟨sPc_blindT, fun U hU hW => ⟨rfl, trivial⟩⟩ rfl rfl hl.1 rfl (lv_room (Nat.le_of_ble_eq_true rfl)) dChk_5 ⟨Nat.le_refl _, Nat.le_refl _⟩) ?_
    refine lv_pop hx hb dChk_8 rfl ?_
    exact W.vret hx hb hr (fun t ht _ => ⟨rfl, ht⟩) (fun q hq => absurd hq List.not_mem_nil) dChk_9
theorem c_sl1 {i : Int32} (hN : N < 2 ^ 31) (hi : vp_in i N) (hv : ((f i.toNatClampNeg &&& 255).toUInt32 % 65536).toInt32 = f i.toNatClampNeg ∧ narrow .char (.int (f i.toNatClampNeg)) = .int (f i.toNatClampNeg)) : Met l ySL1 (sWS ySL1 bSL1 2 (some .char)) ({ frames := 2, cells := 0, slots := 0, locals := 43 }) (sPc [.ref dv, .int i] (sOK a dv N fm f A)) (sQc (some (.int (f i.toNatClampNeg)))) 0 0 (fun _ => False) := by
  refine Met.ofW (cc := bSL1) (maxL := 2) (ret := some .char) (by decide) rfl ?_
  intro p e s m args below meth c s₁ B hml hv
  obtain ⟨rfl, hok⟩ := hv
  obtain ⟨h1, h2, h3, h4, h5, h6⟩ := id hok
  have hx := B.exec
  have hb := B.bytes
  have hr := B.returns
  have hlocks := B.notSynchronized
  have hts := atoms_spec (ws := sWS ySL1 bSL1 2 (some .char)) B.pre
  have hT : ∀ w ∈ lw_tbl.filter goodWord, w.before [.ref dv, .int i].toArray s = true := fun w hw => hts w (List.mem_cons_of_mem _ hw)
  have hown : s.vm.findClass "java/lang/StringLatin1" = some m.cls := findClass_of_methodNamed B.named
  have hS : va_S A s.heap s.heap [] := va_S.rf
  have hl := lv_entry ([.ref dv, .int i]) (n := 2) (Nat.le_of_ble_eq_true rfl)
  rw [lg_entry_eq]
  generalize (lg_sl ([.ref dv, .int i]) ++ List.replicate (2 - (lg_sl ([.ref dv, .int i])).length) Slot.unset).toArray = ls at hl ⊢
  have hl : lv_has ls 2 [(0, .ref dv), (1, .int i)] := hl
  have hrecv : ∃ cellB : Cell, s.heap[a]? = some cellB ∧ cellB.vm.isStatics = false ∧ s.vm.findClass "java/lang/String" = some cellB.cls := by
    obtain ⟨cell, k1, k2, k3, -⟩ := h1
    exact ⟨cell, k1, k2, k3⟩
  have hi0 : ¬ i < 0 := fun q => hi (Or.inl q)
  have hin : i < Int32.ofNat N := by
    obtain ⟨j, hj, e⟩ := vp_in_of hi hN
    rw [e]
    exact nI_lt hj hN
  refine lv_iload_n hx hb dSL1_0 rfl (lv_at hl 1 rfl) ?_
  refine lv_aload_n hx hb dSL1_1 rfl (lv_at hl 0 rfl) ?_
  refine va_tlen hx hb h4 hS (v := Int32.ofNat N) rfl dSL1_2 ?_
  refine scall (va_runS (As := [.int i, .int (Int32.ofNat N)]) (rest := []) ⟨hx, hb, hml, hown, hT⟩ (c_chk (l := l) (A := A) (a := a) (dv := dv) (N := N) (fm := fm) (f := f) hi0 hin) (va_cwS 2 hT (sgS (sW_in 28 rfl) (sW_in 16 rfl) (sW_in 18 rfl) (sW_in 5 rfl)) rfl rfl rfl ⟨by decide, by decide, by decide +kernel⟩ ⟨by decide, by decide⟩) ⟨sPc_blind, fun U hU hW => ⟨rfl, hok.go hW hU hS⟩⟩ rfl rfl hl.1 rfl (lv_room (Nat.le_of_ble_eq_true rfl)) dSL1_3 ⟨Nat.le_refl _, Nat.le_refl _⟩) ?_
  refine lv_aload_n hx hb dSL1_6 rfl (lv_at hl 0 rfl) ?_
  refine lv_iload_n hx hb dSL1_7 rfl (lv_at hl 1 rfl) ?_
  refine va_tb hx hb h4 hS hi (v := .int (f i.toNatClampNeg)) rfl dSL1_8 ?_
  refine lv_sipush (v := 255) hx hb dSL1_9 (by decide) ?_
  refine lv_iand hx hb dSL1_12 ?_
  refine lv_i2c hx hb dSL1_13 hv.1 ?_
  exact W.zret (ty := .char) hx hb hr hv.2 (fun t ht _ => ⟨rfl, ht⟩) (fun q hq => absurd hq List.not_mem_nil) dSL1_14
theorem c_chr {i : Int32} (hN : N < 2 ^ 31) (hi : vp_in i N) (hv : ((f i.toNatClampNeg &&& 255).toUInt32 % 65536).toInt32 = f i.toNatClampNeg ∧ narrow .char (.int (f i.toNatClampNeg)) = .int (f i.toNatClampNeg)) : Met l yChr (sWS yChr bChr 2 (some .char)) ({ frames := 3, cells := 0, slots := 0, locals := 64 }) (sPc [.ref a, .int i] (sOK a dv N fm f A)) (sQc (some (.int (f i.toNatClampNeg)))) 0 0 (fun _ => False) := by
  refine Met.ofW (cc := bChr) (maxL := 2) (ret := some .char) (by decide) rfl ?_
  intro p e s m args below meth c s₁ B hml hv
  obtain ⟨rfl, hok⟩ := hv
  obtain ⟨h1, h2, h3, h4, h5, h6⟩ := id hok
  have hx := B.exec
  have hb := B.bytes
  have hr := B.returns
  have hlocks := B.notSynchronized
  have hts := atoms_spec (ws := sWS yChr bChr 2 (some .char)) B.pre
  have hT : ∀ w ∈ lw_tbl.filter goodWord, w.before [.ref a, .int i].toArray s = true := fun w hw => hts w (List.mem_cons_of_mem _ hw)
  have hown : s.vm.findClass "java/lang/String" = some m.cls := findClass_of_methodNamed B.named
  have hS : va_S A s.heap s.heap [] := va_S.rf
  have hl := lv_entry ([.ref a, .int i]) (n := 2) (Nat.le_of_ble_eq_true rfl)
  rw [lg_entry_eq]
  generalize (lg_sl ([.ref a, .int i]) ++ List.replicate (2 - (lg_sl ([.ref a, .int i])).length) Slot.unset).toArray = ls at hl ⊢
  have hl : lv_has ls 2 [(0, .ref a), (1, .int i)] := hl
  have hrecv : ∃ cellB : Cell, s.heap[a]? = some cellB ∧ cellB.vm.isStatics = false ∧ s.vm.findClass "java/lang/String" = some cellB.cls := by
    obtain ⟨cell, k1, k2, k3, -⟩ := h1
    exact ⟨cell, k1, k2, k3⟩
  refine lv_aload_n hx hb dChr_0 rfl (lv_at hl 0 rfl) ?_
  refine scall (va_runV (C := "java/lang/String") (As := []) (b := a) (rest := []) ⟨hx, hb, hml, hown, hT⟩ (c_lat (l := l) (A := A) (a := a) (dv := dv) (N := N) (fm := fm) (f := f)) (cwV 0 hT (sgV (sW_in 26 rfl) (sW_in 10 rfl) (sW_in 14 rfl) (sW_in 18 rfl) (sW_in 3 rfl)) rfl rfl rfl ⟨rfl, by decide, by decide, by decide +kernel⟩ ⟨by decide, by decide⟩) ⟨sPc_blind, hrecv, fun U hU hW => ⟨rfl, hok.go hW hU hS⟩⟩ rfl rfl hl.1 rfl (lv_room (Nat.le_of_ble_eq_true rfl)) dChr_1 ⟨Nat.le_refl _, Nat.le_refl _⟩) ?_
  refine lv_if_eq hx hb dChr_4 (tgt := 16) (by decide) (fun q => absurd q (by decide)) (fun _ => ?_)
  refine lv_aload_n hx hb dChr_7 rfl (lv_at hl 0 rfl) ?_
  refine vk_getf hx hb h3 hS hown (hT _ (sW_in 23 rfl)) (fun _ h => h) dChr_8 ?_
  refine lv_iload_n hx hb dChr_11 rfl (lv_at hl 1 rfl) ?_
  refine scall (va_runS (As := [.ref dv, .int i]) (rest := []) ⟨hx, hb, hml, hown, hT⟩ (c_sl1 (l := l) (A := A) (a := a) (dv := dv) (N := N) (fm := fm) (f := f) hN hi hv) (va_cwS 2 hT (sgS (sW_in 27 rfl) (sW_in 15 rfl) (sW_in 19 rfl) (sW_in 4 rfl)) rfl rfl rfl ⟨by decide, by decide, by decide +kernel⟩ ⟨by decide, by decide⟩) ⟨sPc_blind, fun U hU hW => ⟨rfl, hok.go hW hU hS⟩⟩ rfl rfl hl.1 rfl (lv_room (Nat.le_of_ble_eq_true rfl)) dChr_12 ⟨Nat.le_refl _, Nat.le_refl _⟩) ?_
  exact W.zret (ty := .char) hx hb hr hv.2 (fun t ht _ => ⟨rfl, ht⟩) (fun q hq => absurd hq List.not_mem_nil) dChr_15
end STRS
