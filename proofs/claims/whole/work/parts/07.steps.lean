/-! SOUNDNESS, an instruction a row -/
section MSTEP
variable {p : Program} {l : Launch} {e : Env} {R : Room} {s : State} {m : MethodId} {args : Array Value} {below : List Frame} {meth : Method} {c : Code} {Q : State → Prop} {base : Nat} {sa : Nat → Nat} {D : va_G} {cA : Nat → ClassId} {xs : Nat → Int32} {sl d M cells slots pc : Nat} {L L' : mL} {st st' : List Value} {H H' : mH} {pc' : Nat}
theorem mjmp_ok {pc t : Nat} {off : Int} (h : mjmp pc off = some t) : (pc : Int) + off = (t : Int) := by
  unfold mjmp at h
  split at h
  · cases h
    omega
  · cases h
theorem ms_ii {f : Int32 → Int32 → Int32} (h : mii pc L st H f = some (.inl (pc', L', st', H'))) (row : ∀ {x y : Int32} {rest : List Value} {ls : Array Slot} {Hr : Heap} {locs : List Loc}, W p l e R s m args below meth c Hr locs cells slots Q (F0 m (pc + 1) ls (.int (f x y) :: rest)) → W p l e R s m args below meth c Hr locs cells slots Q (F0 m pc ls (.int y :: .int x :: rest))) : H'.2 = H.2 ∧ (mG p l e R s m args below meth c Q base sa D cA M cells slots pc' L' st' H' → mG p l e R s m args below meth c Q base sa D cA M cells slots pc L st H) := by
  unfold mii at h
  split at h
  · cases h
    exact ⟨rfl, fun kk ls Hr locs hl hn hW hS => row (kk ls Hr locs hl hn hW hS)⟩
  · cases h
theorem ms_ll {f : Int64 → Int64 → Int64} (h : mll pc L st H f = some (.inl (pc', L', st', H'))) (row : ∀ {x y : Int64} {rest : List Value} {ls : Array Slot} {Hr : Heap} {locs : List Loc}, W p l e R s m args below meth c Hr locs cells slots Q (F0 m (pc + 1) ls (.long (f x y) :: rest)) → W p l e R s m args below meth c Hr locs cells slots Q (F0 m pc ls (.long y :: .long x :: rest))) : H'.2 = H.2 ∧ (mG p l e R s m args below meth c Q base sa D cA M cells slots pc' L' st' H' → mG p l e R s m args below meth c Q base sa D cA M cells slots pc L st H) := by
  unfold mll at h
  split at h
  · cases h
    exact ⟨rfl, fun kk ls Hr locs hl hn hW hS => row (kk ls Hr locs hl hn hW hS)⟩
  · cases h
theorem ms_br {P : Prop} [Decidable P] {off : Int} {top r : List Value} (h : mbr (decide P) pc off L r H = some (.inl (pc', L', st', H'))) (row : ∀ {tgt : Nat} {rest : List Value} {ls : Array Slot} {Hr : Heap} {locs : List Loc}, (pc : Int) + off = (tgt : Int) → (P → W p l e R s m args below meth c Hr locs cells slots Q (F0 m tgt ls rest)) → (¬ P → W p l e R s m args below meth c Hr locs cells slots Q (F0 m (pc + 3) ls rest)) → W p l e R s m args below meth c Hr locs cells slots Q (F0 m pc ls (top.map (rv base sa) ++ rest))) : H'.2 = H.2 ∧ (mG p l e R s m args below meth c Q base sa D cA M cells slots pc' L' st' H' → mG p l e R s m args below meth c Q base sa D cA M cells slots pc L (top ++ r) H) := by
  unfold mbr at h
  split at h
  · rename_i t ht
    cases h
    refine ⟨rfl, fun kk ls Hr locs hl hn hW hS => ?_⟩
    rw [List.map_append]
    by_cases hP : P
    · refine row (mjmp_ok ht) (fun _ => ?_) (fun hN => absurd hP hN)
      have := kk ls Hr locs hl hn hW hS
      rw [decide_eq_true hP, if_pos rfl] at this
      exact this
    · refine row (mjmp_ok ht) (fun hN => absurd hN hP) (fun _ => ?_)
      have := kk ls Hr locs hl hn hW hS
      rw [decide_eq_false hP, if_neg (by decide)] at this
      exact this
  · cases h
theorem ms_goto {off : Int} (F : mF p s m args meth c M base sa D cA xs sl d R) (hd : decode (mbytes M) pc = .ok (.goto off, 3)) (h : mgo pc off L st H = some (.inl (pc', L', st', H'))) : H'.2 = H.2 ∧ (mG p l e R s m args below meth c Q base sa D cA M cells slots pc' L' st' H' → mG p l e R s m args below meth c Q base sa D cA M cells slots pc L st H) := by
  unfold mgo at h
  split at h
  · rename_i t ht
    cases h
    exact ⟨rfl, fun kk ls Hr locs hl hn hW hS => lv_goto F.1 F.2.1 hd (mjmp_ok ht) (kk ls Hr locs hl hn hW hS)⟩
  · cases h
theorem ms_iload_n {k : Fin 4} (F : mF p s m args meth c M base sa D cA xs sl d R) (hd : decode (mbytes M) pc = .ok (.iload_n k, 1)) (h : mldi L k (pc + 1) st H = some (.inl (pc', L', st', H'))) : H'.2 = H.2 ∧ (mG p l e R s m args below meth c Q base sa D cA M cells slots pc' L' st' H' → mG p l e R s m args below meth c Q base sa D cA M cells slots pc L st H) := by
  unfold mldi at h
  split at h
  · rename_i hk
    cases h
    exact ⟨rfl, fun kk ls Hr locs hl hn hW hS => lv_iload_n F.1 F.2.1 hd rfl (ml_at hl hk) (kk ls Hr locs hl hn hW hS)⟩
  · cases h
theorem ms_iload {k : Nat} (F : mF p s m args meth c M base sa D cA xs sl d R) (hd : decode (mbytes M) pc = .ok (.iload k, 2)) (h : mldi L k (pc + 2) st H = some (.inl (pc', L', st', H'))) : H'.2 = H.2 ∧ (mG p l e R s m args below meth c Q base sa D cA M cells slots pc' L' st' H' → mG p l e R s m args below meth c Q base sa D cA M cells slots pc L st H) := by
  unfold mldi at h
  split at h
  · rename_i hk
    cases h
    exact ⟨rfl, fun kk ls Hr locs hl hn hW hS => lv_iload F.1 F.2.1 hd (ml_at hl hk) (kk ls Hr locs hl hn hW hS)⟩
  · cases h
theorem ms_lload_n {k : Fin 4} (F : mF p s m args meth c M base sa D cA xs sl d R) (hd : decode (mbytes M) pc = .ok (.lload_n k, 1)) (h : mldl L k (pc + 1) st H = some (.inl (pc', L', st', H'))) : H'.2 = H.2 ∧ (mG p l e R s m args below meth c Q base sa D cA M cells slots pc' L' st' H' → mG p l e R s m args below meth c Q base sa D cA M cells slots pc L st H) := by
  unfold mldl at h
  split at h
  · rename_i hk
    cases h
    exact ⟨rfl, fun kk ls Hr locs hl hn hW hS => lv_lload_n F.1 F.2.1 hd rfl (ml_at hl hk) (kk ls Hr locs hl hn hW hS)⟩
  · cases h
theorem ms_lload {k : Nat} (F : mF p s m args meth c M base sa D cA xs sl d R) (hd : decode (mbytes M) pc = .ok (.lload k, 2)) (h : mldl L k (pc + 2) st H = some (.inl (pc', L', st', H'))) : H'.2 = H.2 ∧ (mG p l e R s m args below meth c Q base sa D cA M cells slots pc' L' st' H' → mG p l e R s m args below meth c Q base sa D cA M cells slots pc L st H) := by
  unfold mldl at h
  split at h
  · rename_i hk
    cases h
    exact ⟨rfl, fun kk ls Hr locs hl hn hW hS => lv_lload F.1 F.2.1 hd (ml_at hl hk) (kk ls Hr locs hl hn hW hS)⟩
  · cases h
theorem ms_aload_n {k : Fin 4} (F : mF p s m args meth c M base sa D cA xs sl d R) (hd : decode (mbytes M) pc = .ok (.aload_n k, 1)) (h : mlda L k (pc + 1) st H = some (.inl (pc', L', st', H'))) : H'.2 = H.2 ∧ (mG p l e R s m args below meth c Q base sa D cA M cells slots pc' L' st' H' → mG p l e R s m args below meth c Q base sa D cA M cells slots pc L st H) := by
  unfold mlda at h
  split at h
  · rename_i hk
    cases h
    exact ⟨rfl, fun kk ls Hr locs hl hn hW hS => lv_aload_n F.1 F.2.1 hd rfl (ml_at hl hk) (kk ls Hr locs hl hn hW hS)⟩
  · rename_i hk
    cases h
    exact ⟨rfl, fun kk ls Hr locs hl hn hW hS => lv_aload_nN F.1 F.2.1 hd rfl (ml_at hl hk) (kk ls Hr locs hl hn hW hS)⟩
  · rename_i hk
    cases h
    exact ⟨rfl, fun kk ls Hr locs hl hn hW hS => lv_aload_n F.1 F.2.1 hd rfl (ml_at hl hk) (kk ls Hr locs hl hn hW hS)⟩
  · cases h
theorem ms_aload {k : Nat} (F : mF p s m args meth c M base sa D cA xs sl d R) (hd : decode (mbytes M) pc = .ok (.aload k, 2)) (h : mlda L k (pc + 2) st H = some (.inl (pc', L', st', H'))) : H'.2 = H.2 ∧ (mG p l e R s m args below meth c Q base sa D cA M cells slots pc' L' st' H' → mG p l e R s m args below meth c Q base sa D cA M cells slots pc L st H) := by
  unfold mlda at h
  split at h
  · rename_i hk
    cases h
    exact ⟨rfl, fun kk ls Hr locs hl hn hW hS => lv_aload F.1 F.2.1 hd (ml_at hl hk) (kk ls Hr locs hl hn hW hS)⟩
  · rename_i hk
    cases h
    exact ⟨rfl, fun kk ls Hr locs hl hn hW hS => lv_aloadN F.1 F.2.1 hd (ml_at hl hk) (kk ls Hr locs hl hn hW hS)⟩
  · rename_i hk
    cases h
    exact ⟨rfl, fun kk ls Hr locs hl hn hW hS => lv_aload F.1 F.2.1 hd (ml_at hl hk) (kk ls Hr locs hl hn hW hS)⟩
  · cases h
theorem ms_istore_n {k : Fin 4} (F : mF p s m args meth c M base sa D cA xs sl d R) (hd : decode (mbytes M) pc = .ok (.istore_n k, 1)) (h : msti L k (pc + 1) st H = some (.inl (pc', L', st', H'))) : H'.2 = H.2 ∧ (mG p l e R s m args below meth c Q base sa D cA M cells slots pc' L' st' H' → mG p l e R s m args below meth c Q base sa D cA M cells slots pc L st H) := by
  unfold msti at h
  split at h
  · split at h
    · rename_i hk
      cases h
      refine ⟨rfl, fun kk ls Hr locs hl hn hW hS => lv_istore_n F.1 F.2.1 hd rfl hl (by omega) rfl (fun ls1 h1 => kk ls1 Hr locs (ml_st1 hk h1) (by rw [mst1_len]; exact hn) hW hS)⟩
    · cases h
  · cases h
theorem ms_istore {k : Nat} (F : mF p s m args meth c M base sa D cA xs sl d R) (hd : decode (mbytes M) pc = .ok (.istore k, 2)) (h : msti L k (pc + 2) st H = some (.inl (pc', L', st', H'))) : H'.2 = H.2 ∧ (mG p l e R s m args below meth c Q base sa D cA M cells slots pc' L' st' H' → mG p l e R s m args below meth c Q base sa D cA M cells slots pc L st H) := by
  unfold msti at h
  split at h
  · split at h
    · rename_i hk
      cases h
      refine ⟨rfl, fun kk ls Hr locs hl hn hW hS => lv_istore F.1 F.2.1 hd hl (by omega) rfl (fun ls1 h1 => kk ls1 Hr locs (ml_st1 hk h1) (by rw [mst1_len]; exact hn) hW hS)⟩
    · cases h
  · cases h
theorem ms_lstore_n {k : Fin 4} (F : mF p s m args meth c M base sa D cA xs sl d R) (hd : decode (mbytes M) pc = .ok (.lstore_n k, 1)) (h : mstl L k (pc + 1) st H = some (.inl (pc', L', st', H'))) : H'.2 = H.2 ∧ (mG p l e R s m args below meth c Q base sa D cA M cells slots pc' L' st' H' → mG p l e R s m args below meth c Q base sa D cA M cells slots pc L st H) := by
  unfold mstl at h
  split at h
  · split at h
    · rename_i hk
      cases h
      refine ⟨rfl, fun kk ls Hr locs hl hn hW hS => lv_lstore_n F.1 F.2.1 hd rfl hl (by omega) rfl (fun ls1 h1 => kk ls1 Hr locs (ml_st2 hk h1) (by rw [mst2_len]; exact hn) hW hS)⟩
    · cases h
  · cases h
theorem ms_lstore {k : Nat} (F : mF p s m args meth c M base sa D cA xs sl d R) (hd : decode (mbytes M) pc = .ok (.lstore k, 2)) (h : mstl L k (pc + 2) st H = some (.inl (pc', L', st', H'))) : H'.2 = H.2 ∧ (mG p l e R s m args below meth c Q base sa D cA M cells slots pc' L' st' H' → mG p l e R s m args below meth c Q base sa D cA M cells slots pc L st H) := by
  unfold mstl at h
  split at h
  · split at h
    · rename_i hk
      cases h
      refine ⟨rfl, fun kk ls Hr locs hl hn hW hS => lv_lstore F.1 F.2.1 hd hl (by omega) rfl (fun ls1 h1 => kk ls1 Hr locs (ml_st2 hk h1) (by rw [mst2_len]; exact hn) hW hS)⟩
    · cases h
  · cases h
theorem ms_astore_n {k : Fin 4} (F : mF p s m args meth c M base sa D cA xs sl d R) (hd : decode (mbytes M) pc = .ok (.astore_n k, 1)) (h : msta L k (pc + 1) st H = some (.inl (pc', L', st', H'))) : H'.2 = H.2 ∧ (mG p l e R s m args below meth c Q base sa D cA M cells slots pc' L' st' H' → mG p l e R s m args below meth c Q base sa D cA M cells slots pc L st H) := by
  unfold msta at h
  split at h
  · split at h
    · rename_i hk
      cases h
      refine ⟨rfl, fun kk ls Hr locs hl hn hW hS => lv_astore_n F.1 F.2.1 hd rfl hl (by omega) rfl (fun ls1 h1 => kk ls1 Hr locs (ml_st1 hk h1) (by rw [mst1_len]; exact hn) hW hS)⟩
    · cases h
  · split at h
    · rename_i hk
      cases h
      refine ⟨rfl, fun kk ls Hr locs hl hn hW hS => lv_astore_nN F.1 F.2.1 hd rfl hl (by omega) rfl (fun ls1 h1 => kk ls1 Hr locs (ml_st1 hk h1) (by rw [mst1_len]; exact hn) hW hS)⟩
    · cases h
  · split at h
    · rename_i hk
      cases h
      refine ⟨rfl, fun kk ls Hr locs hl hn hW hS => lv_astore_n F.1 F.2.1 hd rfl hl (by omega) rfl (fun ls1 h1 => kk ls1 Hr locs (ml_st1 hk h1) (by rw [mst1_len]; exact hn) hW hS)⟩
    · cases h
  · cases h
theorem ms_astore {k : Nat} (F : mF p s m args meth c M base sa D cA xs sl d R) (hd : decode (mbytes M) pc = .ok (.astore k, 2)) (h : msta L k (pc + 2) st H = some (.inl (pc', L', st', H'))) : H'.2 = H.2 ∧ (mG p l e R s m args below meth c Q base sa D cA M cells slots pc' L' st' H' → mG p l e R s m args below meth c Q base sa D cA M cells slots pc L st H) := by
  unfold msta at h
  split at h
  · split at h
    · rename_i hk
      cases h
      refine ⟨rfl, fun kk ls Hr locs hl hn hW hS => lv_astore F.1 F.2.1 hd hl (by omega) rfl (fun ls1 h1 => kk ls1 Hr locs (ml_st1 hk h1) (by rw [mst1_len]; exact hn) hW hS)⟩
    · cases h
  · split at h
    · rename_i hk
      cases h
      refine ⟨rfl, fun kk ls Hr locs hl hn hW hS => lv_astoreN F.1 F.2.1 hd hl (by omega) rfl (fun ls1 h1 => kk ls1 Hr locs (ml_st1 hk h1) (by rw [mst1_len]; exact hn) hW hS)⟩
    · cases h
  · split at h
    · rename_i hk
      cases h
      refine ⟨rfl, fun kk ls Hr locs hl hn hW hS => lv_astore F.1 F.2.1 hd hl (by omega) rfl (fun ls1 h1 => kk ls1 Hr locs (ml_st1 hk h1) (by rw [mst1_len]; exact hn) hW hS)⟩
    · cases h
  · cases h
theorem ms_iinc {k : Nat} {n : Int} {x : Int32} (F : mF p s m args meth c M base sa D cA xs sl d R) (hd : decode (mbytes M) pc = .ok (.iinc k n, 3)) (hk : L[k]? = some (some (.int x))) (hi : k < L.length) (kk : mG p l e R s m args below meth c Q base sa D cA M cells slots (pc + 3) (mst1 L k (.int (x + Int32.ofInt n))) st H) : mG p l e R s m args below meth c Q base sa D cA M cells slots pc L st H := by
  intro ls Hr locs hl hn hW hS
  obtain ⟨j, hj⟩ := List.getElem?_of_mem (mprs_mem.mpr ⟨k, .int x, rfl, hk⟩ : (0 + k, rv base sa (.int x)) ∈ mprs base sa 0 L)
  rw [Nat.zero_add] at hj
  exact lv_iinc F.1 F.2.1 hd hl hj rfl (by omega) rfl (fun ls1 h1 => kk ls1 Hr locs (ml_st1 hi h1) (by rw [mst1_len]; exact hn) hW hS)
end MSTEP
