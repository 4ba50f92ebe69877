/-! SOUNDNESS: every step -/
section MALL
variable {p : Program} {l : Launch} {e : Env} {R : Room} {s : State} {m : MethodId} {args : Array Value} {below : List Frame} {meth : Method} {c : Code} {Q : State → Prop} {base : Nat} {sa : Nat → Nat} {D : va_G} {cA : Nat → ClassId} {xs : Nat → Int32} {sl d M cells slots pc : Nat} {L L' : mL} {st st' : List Value} {H H' : mH} {pc' : Nat}
theorem ms_same (h : H'.2 = H.2 ∧ (mG p l e R s m args below meth c Q base sa D cA M cells slots pc' L' st' H' → mG p l e R s m args below meth c Q base sa D cA M cells slots pc L st H)) : H.2.1 ≤ H'.2.1 ∧ H.2.2 ≤ H'.2.2 ∧ (cells + (H'.2.1 - H.2.1) ≤ R.cells → slots + (H'.2.2 - H.2.2) ≤ R.slots → mG p l e R s m args below meth c Q base sa D cA M (cells + (H'.2.1 - H.2.1)) (slots + (H'.2.2 - H.2.2)) pc' L' st' H' → mG p l e R s m args below meth c Q base sa D cA M cells slots pc L st H) := by
  obtain ⟨e1, k⟩ := h
  rw [e1]
  refine ⟨Nat.le_refl _, Nat.le_refl _, fun _ _ kk => k ?_⟩
  rw [Nat.sub_self, Nat.sub_self] at kk
  exact kk
theorem ms_made {n : Nat} {cl : mC} (e1 : H' = mnew H cl n) (k : cells + 1 ≤ R.cells → slots + n ≤ R.slots → mG p l e R s m args below meth c Q base sa D cA M (cells + 1) (slots + n) pc' L' st' (mnew H cl n) → mG p l e R s m args below meth c Q base sa D cA M cells slots pc L st H) : H.2.1 ≤ H'.2.1 ∧ H.2.2 ≤ H'.2.2 ∧ (cells + (H'.2.1 - H.2.1) ≤ R.cells → slots + (H'.2.2 - H.2.2) ≤ R.slots → mG p l e R s m args below meth c Q base sa D cA M (cells + (H'.2.1 - H.2.1)) (slots + (H'.2.2 - H.2.2)) pc' L' st' H' → mG p l e R s m args below meth c Q base sa D cA M cells slots pc L st H) := by
  subst e1
  have a1 : (mnew H cl n).2.1 - H.2.1 = 1 := by show H.2.1 + 1 - H.2.1 = 1; omega
  have a2 : (mnew H cl n).2.2 - H.2.2 = n := by show H.2.2 + n - H.2.2 = n; omega
  refine ⟨by show H.2.1 ≤ H.2.1 + 1; omega, by show H.2.2 ≤ H.2.2 + n; omega, ?_⟩
  rw [a1, a2]
  exact k
theorem ms_iconst {k : Int} (F : mF p s m args meth c M base sa D cA xs sl d R) (hd : decode (mbytes M) pc = .ok (.iconst k, 1)) (h : nx (pc + 1) L (.int (Int32.ofInt k) :: st) H = some (.inl (pc', L', st', H'))) : H'.2 = H.2 ∧ (mG p l e R s m args below meth c Q base sa D cA M cells slots pc' L' st' H' → mG p l e R s m args below meth c Q base sa D cA M cells slots pc L st H) := by
  cases h
  exact ⟨rfl, fun kk ls Hr locs hl hn hW hS => lv_iconst F.1 F.2.1 hd rfl (kk ls Hr locs hl hn hW hS)⟩
theorem ms_bipush {k : Int} (F : mF p s m args meth c M base sa D cA xs sl d R) (hd : decode (mbytes M) pc = .ok (.bipush k, 2)) (h : nx (pc + 2) L (.int (Int8.ofInt k).toInt32 :: st) H = some (.inl (pc', L', st', H'))) : H'.2 = H.2 ∧ (mG p l e R s m args below meth c Q base sa D cA M cells slots pc' L' st' H' → mG p l e R s m args below meth c Q base sa D cA M cells slots pc L st H) := by
  cases h
  exact ⟨rfl, fun kk ls Hr locs hl hn hW hS => lv_bipush F.1 F.2.1 hd rfl (kk ls Hr locs hl hn hW hS)⟩
theorem ms_sipush {k : Int} (F : mF p s m args meth c M base sa D cA xs sl d R) (hd : decode (mbytes M) pc = .ok (.sipush k, 3)) (h : nx (pc + 3) L (.int (Int16.ofInt k).toInt32 :: st) H = some (.inl (pc', L', st', H'))) : H'.2 = H.2 ∧ (mG p l e R s m args below meth c Q base sa D cA M cells slots pc' L' st' H' → mG p l e R s m args below meth c Q base sa D cA M cells slots pc L st H) := by
  cases h
  exact ⟨rfl, fun kk ls Hr locs hl hn hW hS => lv_sipush F.1 F.2.1 hd rfl (kk ls Hr locs hl hn hW hS)⟩
theorem ms_lconst {k : Fin 2} (F : mF p s m args meth c M base sa D cA xs sl d R) (hd : decode (mbytes M) pc = .ok (.lconst k, 1)) (h : nx (pc + 1) L (.long (Int64.ofNat k) :: st) H = some (.inl (pc', L', st', H'))) : H'.2 = H.2 ∧ (mG p l e R s m args below meth c Q base sa D cA M cells slots pc' L' st' H' → mG p l e R s m args below meth c Q base sa D cA M cells slots pc L st H) := by
  cases h
  exact ⟨rfl, fun kk ls Hr locs hl hn hW hS => lv_lconst F.1 F.2.1 hd rfl (kk ls Hr locs hl hn hW hS)⟩
theorem ms_null  (F : mF p s m args meth c M base sa D cA xs sl d R) (hd : decode (mbytes M) pc = .ok (.aconst_null, 1)) (h : nx (pc + 1) L (.null :: st) H = some (.inl (pc', L', st', H'))) : H'.2 = H.2 ∧ (mG p l e R s m args below meth c Q base sa D cA M cells slots pc' L' st' H' → mG p l e R s m args below meth c Q base sa D cA M cells slots pc L st H) := by
  cases h
  exact ⟨rfl, fun kk ls Hr locs hl hn hW hS => lv_null F.1 F.2.1 hd (kk ls Hr locs hl hn hW hS)⟩
theorem ms_ldc {k : Nat} (F : mF p s m args meth c M base sa D cA xs sl d R) (hd : decode (mbytes M) pc = .ok (.ldc k, 2)) (h : mldcs M k (pc + 2) L st H = some (.inl (pc', L', st', H'))) : H'.2 = H.2 ∧ (mG p l e R s m args below meth c Q base sa D cA M cells slots pc' L' st' H' → mG p l e R s m args below meth c Q base sa D cA M cells slots pc L st H) := by
  unfold mldcs at h
  split at h
  · rename_i v hv
    cases h
    exact ⟨rfl, fun kk ls Hr locs hl hn hW hS => lv_ldc F.1 F.2.1 F.2.2.2.1 (F.2.2.2.2.2.1 _ (mCi_ok hv)) hd (kk ls Hr locs hl hn hW hS)⟩
  · split at h
    · rename_i j hj
      cases h
      have ho : mown M = 8 := by
        unfold mSt at hj
        split at hj
        · assumption
        · cases hj
      refine ⟨rfl, fun kk ls Hr locs hl hn hW hS => ?_⟩
      obtain ⟨hx, hb, hml, hown, hnm, hts, hK, hbs, hfr, hlo, -, hSt⟩ := F
      rw [ho] at hown hj
      obtain ⟨tx, q⟩ := hSt.2 k j hj
      exact va_ldcS hx hb (show s.vm.findClass "BreadTalk$Reader" = some m.cls from hown) q hd (kk ls Hr locs hl hn hW hS)
    · cases h
theorem ms_ldcw {k : Nat} (F : mF p s m args meth c M base sa D cA xs sl d R) (hd : decode (mbytes M) pc = .ok (.ldc_w k, 3)) (h : mldc M k (pc + 3) L st H = some (.inl (pc', L', st', H'))) : H'.2 = H.2 ∧ (mG p l e R s m args below meth c Q base sa D cA M cells slots pc' L' st' H' → mG p l e R s m args below meth c Q base sa D cA M cells slots pc L st H) := by
  unfold mldc at h
  split at h
  · rename_i v hv
    cases h
    exact ⟨rfl, fun kk ls Hr locs hl hn hW hS => lv_ldcw F.1 F.2.1 F.2.2.2.1 (F.2.2.2.2.2.1 _ (mCi_ok hv)) hd (kk ls Hr locs hl hn hW hS)⟩
  · cases h
theorem ms_ldc2 {k : Nat} (F : mF p s m args meth c M base sa D cA xs sl d R) (hd : decode (mbytes M) pc = .ok (.ldc2_w k, 3)) (h : mldc2 M k (pc + 3) L st H = some (.inl (pc', L', st', H'))) : H'.2 = H.2 ∧ (mG p l e R s m args below meth c Q base sa D cA M cells slots pc' L' st' H' → mG p l e R s m args below meth c Q base sa D cA M cells slots pc L st H) := by
  unfold mldc2 at h
  split at h
  · rename_i v hv
    cases h
    exact ⟨rfl, fun kk ls Hr locs hl hn hW hS => lv_ldc2 F.1 F.2.1 F.2.2.2.1 (F.2.2.2.2.2.1 _ (mCl_ok hv)) hd (kk ls Hr locs hl hn hW hS)⟩
  · cases h
theorem ms_divi {f : Int32 → Int32 → Int32} (h : mdivi pc L st H f = some (.inl (pc', L', st', H'))) (row : ∀ {x y : Int32} {rest : List Value} {ls : Array Slot} {Hr : Heap} {locs : List Loc}, ¬ y = 0 → W p l e R s m args below meth c Hr locs cells slots Q (F0 m (pc + 1) ls (.int (f x y) :: rest)) → W p l e R s m args below meth c Hr locs cells slots Q (F0 m pc ls (.int y :: .int x :: rest))) : H'.2 = H.2 ∧ (mG p l e R s m args below meth c Q base sa D cA M cells slots pc' L' st' H' → mG p l e R s m args below meth c Q base sa D cA M cells slots pc L st H) := by
  unfold mdivi at h
  split at h
  · split at h
    · cases h
    · rename_i hy
      cases h
      exact ⟨rfl, fun kk ls Hr locs hl hn hW hS => row hy (kk ls Hr locs hl hn hW hS)⟩
  · cases h
theorem ms_divl {f : Int64 → Int64 → Int64} (h : mdivl pc L st H f = some (.inl (pc', L', st', H'))) (row : ∀ {x y : Int64} {rest : List Value} {ls : Array Slot} {Hr : Heap} {locs : List Loc}, ¬ y = 0 → W p l e R s m args below meth c Hr locs cells slots Q (F0 m (pc + 1) ls (.long (f x y) :: rest)) → W p l e R s m args below meth c Hr locs cells slots Q (F0 m pc ls (.long y :: .long x :: rest))) : H'.2 = H.2 ∧ (mG p l e R s m args below meth c Q base sa D cA M cells slots pc' L' st' H' → mG p l e R s m args below meth c Q base sa D cA M cells slots pc L st H) := by
  unfold mdivl at h
  split at h
  · split at h
    · cases h
    · rename_i hy
      cases h
      exact ⟨rfl, fun kk ls Hr locs hl hn hW hS => row hy (kk ls Hr locs hl hn hW hS)⟩
  · cases h
theorem ms_un {f : Int32 → Value} (hf : ∀ x, rv base sa (f x) = f x) (h : mun pc L st H f = some (.inl (pc', L', st', H'))) (row : ∀ {x : Int32} {rest : List Value} {ls : Array Slot} {Hr : Heap} {locs : List Loc}, W p l e R s m args below meth c Hr locs cells slots Q (F0 m (pc + 1) ls (f x :: rest)) → W p l e R s m args below meth c Hr locs cells slots Q (F0 m pc ls (.int x :: rest))) : H'.2 = H.2 ∧ (mG p l e R s m args below meth c Q base sa D cA M cells slots pc' L' st' H' → mG p l e R s m args below meth c Q base sa D cA M cells slots pc L st H) := by
  unfold mun at h
  split at h
  · rename_i x r
    cases h
    refine ⟨rfl, fun kk ls Hr locs hl hn hW hS => row ?_⟩
    have := kk ls Hr locs hl hn hW hS
    rw [List.map_cons, hf] at this
    exact this
  · cases h
theorem ms_lcmp  (F : mF p s m args meth c M base sa D cA xs sl d R) (hd : decode (mbytes M) pc = .ok (.lcmp, 1)) (h : mlcmp pc L st H = some (.inl (pc', L', st', H'))) : H'.2 = H.2 ∧ (mG p l e R s m args below meth c Q base sa D cA M cells slots pc' L' st' H' → mG p l e R s m args below meth c Q base sa D cA M cells slots pc L st H) := by
  unfold mlcmp at h
  split at h
  · cases h
    exact ⟨rfl, fun kk ls Hr locs hl hn hW hS => W.lcmp F.1 F.2.1 hd (kk ls Hr locs hl hn hW hS)⟩
  · cases h
theorem ms_dup  (F : mF p s m args meth c M base sa D cA xs sl d R) (hd : decode (mbytes M) pc = .ok (.dup, 1)) (h : mdup pc L st H = some (.inl (pc', L', st', H'))) : H'.2 = H.2 ∧ (mG p l e R s m args below meth c Q base sa D cA M cells slots pc' L' st' H' → mG p l e R s m args below meth c Q base sa D cA M cells slots pc L st H) := by
  unfold mdup at h
  split at h
  · split at h
    · rename_i hv
      cases h
      exact ⟨rfl, fun kk ls Hr locs hl hn hW hS => lv_dup F.1 F.2.1 hd (by rw [rv_cat]; exact hv) (kk ls Hr locs hl hn hW hS)⟩
    · cases h
  · cases h
theorem ms_pop  (F : mF p s m args meth c M base sa D cA xs sl d R) (hd : decode (mbytes M) pc = .ok (.pop, 1)) (h : mpop1 pc L st H = some (.inl (pc', L', st', H'))) : H'.2 = H.2 ∧ (mG p l e R s m args below meth c Q base sa D cA M cells slots pc' L' st' H' → mG p l e R s m args below meth c Q base sa D cA M cells slots pc L st H) := by
  unfold mpop1 at h
  split at h
  · split at h
    · rename_i hv
      cases h
      exact ⟨rfl, fun kk ls Hr locs hl hn hW hS => lv_pop F.1 F.2.1 hd (by rw [rv_cat]; exact hv) (kk ls Hr locs hl hn hW hS)⟩
    · cases h
  · cases h
theorem ms_dup2  (F : mF p s m args meth c M base sa D cA xs sl d R) (hd : decode (mbytes M) pc = .ok (.dup2, 1)) (h : mdup2 pc L st H = some (.inl (pc', L', st', H'))) : H'.2 = H.2 ∧ (mG p l e R s m args below meth c Q base sa D cA M cells slots pc' L' st' H' → mG p l e R s m args below meth c Q base sa D cA M cells slots pc L st H) := by
  unfold mdup2 at h
  split at h
  · split at h
    · rename_i hv
      cases h
      exact ⟨rfl, fun kk ls Hr locs hl hn hW hS => lv_dup2_11 F.1 F.2.1 hd (by rw [rv_cat]; exact hv.1) (by rw [rv_cat]; exact hv.2) (kk ls Hr locs hl hn hW hS)⟩
    · cases h
  · cases h
theorem ms_icmp {k : ClassFile.Cond} {off : Int} (F : mF p s m args meth c M base sa D cA xs sl d R) (hd : decode (mbytes M) pc = .ok (.if_icmp k off, 3)) (h : micmp k off pc L st H = some (.inl (pc', L', st', H'))) : H'.2 = H.2 ∧ (mG p l e R s m args below meth c Q base sa D cA M cells slots pc' L' st' H' → mG p l e R s m args below meth c Q base sa D cA M cells slots pc L st H) := by
  unfold micmp at h
  split at h
  · rename_i y x r
    cases k with
    | eq => exact ms_br (top := [.int y, .int x]) h (fun ht kt kf => lv_icmp_eq F.1 F.2.1 hd ht kt kf)
    | ne => exact ms_br (top := [.int y, .int x]) h (fun ht kt kf => lv_icmp_ne F.1 F.2.1 hd ht kt (fun q => kf (fun z => z q)))
    | lt => exact ms_br (top := [.int y, .int x]) h (fun ht kt kf => lv_icmp_lt F.1 F.2.1 hd ht kt kf)
    | ge => exact ms_br (top := [.int y, .int x]) h (fun ht kt kf => lv_icmp_ge F.1 F.2.1 hd ht kt kf)
    | gt => exact ms_br (top := [.int y, .int x]) h (fun ht kt kf => lv_icmp_gt F.1 F.2.1 hd ht kt kf)
    | le => exact ms_br (top := [.int y, .int x]) h (fun ht kt kf => lv_icmp_le F.1 F.2.1 hd ht kt kf)
  · cases h
theorem ms_if0 {k : ClassFile.Cond} {off : Int} (F : mF p s m args meth c M base sa D cA xs sl d R) (hd : decode (mbytes M) pc = .ok (.ifCond k off, 3)) (h : mif0 k off pc L st H = some (.inl (pc', L', st', H'))) : H'.2 = H.2 ∧ (mG p l e R s m args below meth c Q base sa D cA M cells slots pc' L' st' H' → mG p l e R s m args below meth c Q base sa D cA M cells slots pc L st H) := by
  unfold mif0 at h
  split at h
  · rename_i x r
    cases k with
    | eq => exact ms_br (top := [.int x]) h (fun ht kt kf => lv_if_eq F.1 F.2.1 hd ht kt kf)
    | ne => exact ms_br (top := [.int x]) h (fun ht kt kf => lv_if_ne F.1 F.2.1 hd ht kt (fun q => kf (fun z => z q)))
    | lt => exact ms_br (top := [.int x]) h (fun ht kt kf => lv_if_lt F.1 F.2.1 hd ht kt kf)
    | ge => exact ms_br (top := [.int x]) h (fun ht kt kf => lv_if_ge F.1 F.2.1 hd ht kt kf)
    | gt => exact ms_br (top := [.int x]) h (fun ht kt kf => lv_if_gt F.1 F.2.1 hd ht kt kf)
    | le => exact ms_br (top := [.int x]) h (fun ht kt kf => lv_if_le F.1 F.2.1 hd ht kt kf)
  · cases h
theorem ms_ifn {off : Int} (F : mF p s m args meth c M base sa D cA xs sl d R) (hd : decode (mbytes M) pc = .ok (.ifnull off, 3)) (h : mifn off pc L st H = some (.inl (pc', L', st', H'))) : H'.2 = H.2 ∧ (mG p l e R s m args below meth c Q base sa D cA M cells slots pc' L' st' H' → mG p l e R s m args below meth c Q base sa D cA M cells slots pc L st H) := by
  unfold mifn at h
  split at h
  · cases h
    exact ⟨rfl, fun kk ls Hr locs hl hn hW hS => lv_ifnull F.1 F.2.1 hd (kk ls Hr locs hl hn hW hS)⟩
  · unfold mgo at h
    split at h
    · rename_i t ht
      cases h
      exact ⟨rfl, fun kk ls Hr locs hl hn hW hS => lv_ifnullN F.1 F.2.1 hd (mjmp_ok ht) (kk ls Hr locs hl hn hW hS)⟩
    · cases h
  · cases h
theorem ms_ifnn {off : Int} (F : mF p s m args meth c M base sa D cA xs sl d R) (hd : decode (mbytes M) pc = .ok (.ifnonnull off, 3)) (h : mifnn off pc L st H = some (.inl (pc', L', st', H'))) : H'.2 = H.2 ∧ (mG p l e R s m args below meth c Q base sa D cA M cells slots pc' L' st' H' → mG p l e R s m args below meth c Q base sa D cA M cells slots pc L st H) := by
  unfold mifnn at h
  split at h
  · unfold mgo at h
    split at h
    · rename_i t ht
      cases h
      exact ⟨rfl, fun kk ls Hr locs hl hn hW hS => lv_ifnonnull F.1 F.2.1 hd (mjmp_ok ht) (kk ls Hr locs hl hn hW hS)⟩
    · cases h
  · cases h
    exact ⟨rfl, fun kk ls Hr locs hl hn hW hS => lv_ifnonnullN F.1 F.2.1 hd (kk ls Hr locs hl hn hW hS)⟩
  · cases h
theorem ms_tsw {dflt lo hi : Int} {offs : Array Int} {len : Nat} (F : mF p s m args meth c M base sa D cA xs sl d R) (hd : decode (mbytes M) pc = .ok (.tableswitch dflt lo hi offs, len)) (h : mtsw dflt lo hi offs pc L st H = some (.inl (pc', L', st', H'))) : H'.2 = H.2 ∧ (mG p l e R s m args below meth c Q base sa D cA M cells slots pc' L' st' H' → mG p l e R s m args below meth c Q base sa D cA M cells slots pc L st H) := by
  unfold mtsw at h
  split at h
  · rename_i x r
    split at h
    · rename_i off ho
      unfold mgo at h
      split at h
      · rename_i t ht
        cases h
        refine ⟨rfl, fun kk ls Hr locs hl hn hW hS => ?_⟩
        unfold mswo at ho
        split at ho
        · rename_i hx
          cases ho
          exact lv_tableOut F.1 F.2.1 hd hx (mjmp_ok ht) (kk ls Hr locs hl hn hW hS)
        · rename_i hx
          exact lv_tableIn F.1 F.2.1 hd (fun q => hx (Or.inl q)) (fun q => hx (Or.inr q)) ho (mjmp_ok ht) (kk ls Hr locs hl hn hW hS)
      · cases h
    · cases h
  · cases h
theorem ms_lsw {dflt : Int} {ps : Array (Int × Int)} {len : Nat} (F : mF p s m args meth c M base sa D cA xs sl d R) (hd : decode (mbytes M) pc = .ok (.lookupswitch dflt ps, len)) (h : mlsw dflt ps pc L st H = some (.inl (pc', L', st', H'))) : H'.2 = H.2 ∧ (mG p l e R s m args below meth c Q base sa D cA M cells slots pc' L' st' H' → mG p l e R s m args below meth c Q base sa D cA M cells slots pc L st H) := by
  unfold mlsw at h
  split at h
  · rename_i x r
    split at h
    · rename_i hp
      unfold mgo at h
      split at h
      · rename_i t ht
        cases h
        exact ⟨rfl, fun kk ls Hr locs hl hn hW hS => lv_lookup F.1 F.2.1 hd hp rfl (mjmp_ok ht) (kk ls Hr locs hl hn hW hS)⟩
      · cases h
    · cases h
  · cases h
theorem ms_incr {k : Nat} {n : Int} (F : mF p s m args meth c M base sa D cA xs sl d R) (hd : decode (mbytes M) pc = .ok (.iinc k n, 3)) (h : mincr L k n pc st H = some (.inl (pc', L', st', H'))) : H'.2 = H.2 ∧ (mG p l e R s m args below meth c Q base sa D cA M cells slots pc' L' st' H' → mG p l e R s m args below meth c Q base sa D cA M cells slots pc L st H) := by
  unfold mincr at h
  split at h
  · rename_i x hk
    split at h
    · rename_i hi
      cases h
      exact ⟨rfl, fun kk => ms_iinc F hd hk hi kk⟩
    · cases h
  · cases h
theorem ms_newo {idx : Nat} (F : mF p s m args meth c M base sa D cA xs sl d R) (hd : decode (mbytes M) pc = .ok (.new idx, 3)) (h : mnewo M idx pc L st H = some (.inl (pc', L', st', H'))) : H.2.1 ≤ H'.2.1 ∧ H.2.2 ≤ H'.2.2 ∧ (cells + (H'.2.1 - H.2.1) ≤ R.cells → slots + (H'.2.2 - H.2.2) ≤ R.slots → mG p l e R s m args below meth c Q base sa D cA M (cells + (H'.2.1 - H.2.1)) (slots + (H'.2.2 - H.2.2)) pc' L' st' H' → mG p l e R s m args below meth c Q base sa D cA M cells slots pc L st H) := by
  unfold mnewo at h
  split at h
  · rename_i ci hci
    cases h
    exact ms_made rfl (fun h1 h2 kk => ms_new F hd hci h1 h2 kk)
  · cases h
theorem mokA : ([.arrayClass .int, .arrayClass .byte, .arrayClass .boolean, .arrayClass .long] : List Cond).all mmem = true := by decide +kernel
theorem ms_newarr {ty : ArrayType} (F : mF p s m args meth c M base sa D cA xs sl d R) (hd : decode (mbytes M) pc = .ok (.newarray ty, 2)) (h : mnewa ty pc L st H = some (.inl (pc', L', st', H'))) : H.2.1 ≤ H'.2.1 ∧ H.2.2 ≤ H'.2.2 ∧ (cells + (H'.2.1 - H.2.1) ≤ R.cells → slots + (H'.2.2 - H.2.2) ≤ R.slots → mG p l e R s m args below meth c Q base sa D cA M (cells + (H'.2.1 - H.2.1)) (slots + (H'.2.2 - H.2.2)) pc' L' st' H' → mG p l e R s m args below meth c Q base sa D cA M cells slots pc L st H) := by
  have hm : ∀ w ∈ ([.arrayClass .int, .arrayClass .byte, .arrayClass .boolean, .arrayClass .long] : List Cond), w ∈ lw_tbl.filter goodWord := fun w hw => mmem_ok (List.all_eq_true.mp mokA w hw)
  unfold mnewa at h
  split at h
  · rename_i n r
    split at h
    · cases h
    · rename_i hn0
      split at h
      · cases h
        exact ms_made rfl (fun h1 h2 kk => ms_newai F (hm _ (List.mem_of_getElem? (i := 0) rfl)) hd hn0 h1 h2 kk)
      · cases h
        exact ms_made rfl (fun h1 h2 kk => ms_newab F (hm _ (List.mem_of_getElem? (i := 1) rfl)) hd hn0 h1 h2 kk)
      · cases h
        exact ms_made rfl (fun h1 h2 kk => ms_newaz F (hm _ (List.mem_of_getElem? (i := 2) rfl)) hd hn0 h1 h2 kk)
      · cases h
        exact ms_made rfl (fun h1 h2 kk => ms_newal F (hm _ (List.mem_of_getElem? (i := 3) rfl)) hd hn0 h1 h2 kk)
      · cases h
  · cases h
theorem ms_anewarr {idx : Nat} (F : mF p s m args meth c M base sa D cA xs sl d R) (hd : decode (mbytes M) pc = .ok (.anewarray idx, 3)) (h : manew M pc idx L st H = some (.inl (pc', L', st', H'))) : H.2.1 ≤ H'.2.1 ∧ H.2.2 ≤ H'.2.2 ∧ (cells + (H'.2.1 - H.2.1) ≤ R.cells → slots + (H'.2.2 - H.2.2) ≤ R.slots → mG p l e R s m args below meth c Q base sa D cA M (cells + (H'.2.1 - H.2.1)) (slots + (H'.2.2 - H.2.2)) pc' L' st' H' → mG p l e R s m args below meth c Q base sa D cA M cells slots pc L st H) := by
  unfold manew at h
  split at h
  · rename_i n r
    split at h
    · cases h
    · rename_i hn0
      split at h
      · rename_i ci hci
        split at h
        · rename_i t ht
          cases h
          exact ms_made rfl (fun h1 h2 kk => ms_anew F hd hci ht hn0 h1 h2 kk)
        · cases h
      · cases h
  · cases h
theorem sch_ok : ∀ j, j < 13 → ∀ i, i < slen j → ((sch j i &&& 255).toUInt32 % 65536).toInt32 = sch j i ∧ narrow .char (.int (sch j i)) = .int (sch j i) := by decide +kernel
theorem slen_ok : ∀ j, j < 13 → slen j < 2 ^ 31 := by decide +kernel
theorem sL1 : Cond.methodLink "BreadTalk$Reader" 117 yLen ∈ lw_tbl.filter goodWord := mmem_ok (by decide +kernel)
theorem sL2 : Cond.methodLink "BreadTalk$Reader" 122 yChr ∈ lw_tbl.filter goodWord := mmem_ok (by decide +kernel)
theorem mSv_ok {o idx k : Nat} (h : mSv o idx = some k) : o = 8 ∧ ((k = 0 ∧ idx = 117) ∨ (k = 1 ∧ idx = 122)) := by
  unfold mSv at h
  split at h
  · rename_i ho
    split at h
    · rename_i hi
      cases h
      exact ⟨ho, Or.inl ⟨rfl, hi⟩⟩
    · split at h
      · rename_i hi
        cases h
        exact ⟨ho, Or.inr ⟨rfl, hi⟩⟩
      · cases h
  · cases h
theorem ms_str {want idx : Nat} (F : mF p s m args meth c M base sa D cA xs sl d R) (hd0 : want = 0 → decode (mbytes M) pc = .ok (.invokevirtual idx, 3)) (hc : cells ≤ R.cells) (hsl : slots ≤ R.slots) (h : mstr want d M pc idx L st H = some (.inl (pc', L', st', H'))) : H'.2 = H.2 ∧ (mG p l e R s m args below meth c Q base sa D cA M cells slots pc' L' st' H' → mG p l e R s m args below meth c Q base sa D cA M cells slots pc L st H) := by
  obtain ⟨hx, hb, hml, hown, hnm, hts, hK, hbs, hfr, hlo, -, hSt⟩ := F
  unfold mstr at h
  split at h
  · rename_i hk
    split at h
    · cases h
    · rename_i j r hcond
      cases h
      simp only [not_or, Decidable.not_not, Nat.not_lt, Nat.not_le] at hcond
      obtain ⟨w0, d4, c8, j13⟩ := hcond
      obtain ⟨ho, hi⟩ := mSv_ok hk
      have hi : idx = 117 := by omega
      subst hi
      rw [ho] at hown
      refine ⟨rfl, fun kk ls Hr locs hl hn hW hS => ?_⟩
      obtain ⟨dv, fm, ok⟩ := hSt.1 j j13
      have hrecv : ∃ cellB : Cell, Hr[sa j]? = some cellB ∧ cellB.vm.isStatics = false ∧ s.vm.findClass "java/lang/String" = some cellB.cls := by
        obtain ⟨cell, k1, k2, k3, -⟩ := ok.1.kept hS.2.1
        exact ⟨cell, k1, k2, k3⟩
      exact scall (va_runV (C := "java/lang/String") (As := []) (b := sa j) (rest := r.map (rv base sa)) ⟨hx, hb, hml, (show s.vm.findClass "BreadTalk$Reader" = some m.cls from hown), hts⟩ (c_len (l := l) (A := fun q => base ≤ q) (a := sa j) (dv := dv) (N := slen j) (fm := fm) (f := sch j)) (cwV 0 hts (sgV sL1 (sW_in 7 rfl) (sW_in 11 rfl) (sW_in 18 rfl) (sW_in 0 rfl)) rfl rfl rfl ⟨rfl, by decide, by decide, by decide +kernel⟩ ⟨by show 1 + 1 ≤ R.frames; omega, by show 8 + (1 + 11) + 20 ≤ R.locals; omega⟩) ⟨sPc_blind, hrecv, fun U hU hWm => ⟨rfl, ok.go hWm hU hS⟩⟩ rfl rfl hl.1 rfl (lv_room (by rw [rv_map_cat]; exact c8)) (hd0 w0) ⟨hc, hsl⟩) (kk ls Hr locs hl hn hW hS)
  · rename_i hk
    split at h
    · cases h
    · rename_i i j r hcond
      cases h
      simp only [not_or, Decidable.not_not, Nat.not_lt, Nat.not_le] at hcond
      obtain ⟨w0, d4, c8, j13, i0, i1⟩ := hcond
      obtain ⟨ho, hi⟩ := mSv_ok hk
      have hi : idx = 122 := by omega
      subst hi
      rw [ho] at hown
      refine ⟨rfl, fun kk ls Hr locs hl hn hW hS => ?_⟩
      obtain ⟨dv, fm, ok⟩ := hSt.1 j j13
      have hrecv : ∃ cellB : Cell, Hr[sa j]? = some cellB ∧ cellB.vm.isStatics = false ∧ s.vm.findClass "java/lang/String" = some cellB.cls := by
        obtain ⟨cell, k1, k2, k3, -⟩ := ok.1.kept hS.2.1
        exact ⟨cell, k1, k2, k3⟩
      have hin : vp_in i (slen j) := fun q => by
        rcases q with q | q
        · exact i0 q
        · omega
      exact scall (va_runV (C := "java/lang/String") (As := [.int i]) (b := sa j) (rest := r.map (rv base sa)) ⟨hx, hb, hml, (show s.vm.findClass "BreadTalk$Reader" = some m.cls from hown), hts⟩ (c_chr (l := l) (A := fun q => base ≤ q) (a := sa j) (dv := dv) (N := slen j) (fm := fm) (f := sch j) (slen_ok j j13) hin (sch_ok j j13 _ i1)) (cwV 1 hts (sgV sL2 (sW_in 9 rfl) (sW_in 13 rfl) (sW_in 18 rfl) (sW_in 2 rfl)) rfl rfl rfl ⟨rfl, by decide, by decide, by decide +kernel⟩ ⟨by show 3 + 1 ≤ R.frames; omega, by show 8 + (2 + 11) + 64 ≤ R.locals; omega⟩) ⟨sPc_blind, hrecv, fun U hU hWm => ⟨rfl, ok.go hWm hU hS⟩⟩ rfl rfl hl.1 rfl (lv_room (by rw [rv_map_cat]; exact c8)) (hd0 w0) ⟨hc, hsl⟩) (kk ls Hr locs hl hn hW hS)
  · cases h
theorem ms_inv {want idx : Nat} (F : mF p s m args meth c M base sa D cA xs sl d R) (hw3 : want < 3) (hd : want = 1 → decode (mbytes M) pc = .ok (.invokestatic idx, 3)) (hd0 : want = 0 → decode (mbytes M) pc = .ok (.invokevirtual idx, 3)) (hc : cells ≤ R.cells) (hsl : slots ≤ R.slots) (h : minv want d M pc idx L st H = some (.inl (pc', L', st', H'))) : H'.2 = H.2 ∧ (mG p l e R s m args below meth c Q base sa D cA M cells slots pc' L' st' H' → mG p l e R s m args below meth c Q base sa D cA M cells slots pc L st H) := by
  have hm : ∀ w ∈ ([.static Lib.Math.max.name, .static Lib.Math.min.name, .static Lib.Math.abs.name, .initialized "java/lang/Math", .code Lib.Math.max.name Lib.Math.max.code 2 (some .int), .code Lib.Math.min.name Lib.Math.min.code 2 (some .int), .code Lib.Math.abs.name Lib.Math.abs.code 1 (some .int), .native arraycopyName, .static arraycopyName, .initialized "java/lang/System", .instanceMethod Lib.objectInit, .code Lib.objectInit ⟨#[0xb1]⟩ 1 none] : List Cond), w ∈ lw_tbl.filter goodWord := fun w hw => mmem_ok (List.all_eq_true.mp mokX w hw)
  unfold minv at h
  split at h
  · rename_i k M' n hiv
    obtain ⟨pl, nest, hch⟩ := mInv_ok hiv
    split at h
    · cases h
    · rename_i hk
      split at h
      · repeat' split at h
        all_goals cases h
      · repeat' split at h
        all_goals cases h
      · repeat' split at h
        all_goals cases h
      · have hw : want = 1 := by omega
        refine ms_copy F (hd hw) ?_ (hm _ (List.mem_of_getElem? (i := 7) rfl)) (hm _ (List.mem_of_getElem? (i := 8) rfl)) (hm _ (List.mem_of_getElem? (i := 9) rfl)) h
        simp only [mchJ, if_pos] at hch
        exact mw_mem hch
      · rename_i k0 k1 k2 k3
        simp only [imp_false] at k0 k1 k2 k3
        have hw : want = 1 := by omega
        refine ms_math F (hd hw) ⟨?_, ?_, ?_⟩ hc hsl h
        · rintro rfl
          simp only [mchJ, if_pos, if_neg, show ¬ (4 : Nat) = 3 by decide, if_false, if_true] at hch
          exact mw_mem hch
        · rintro rfl
          simp only [mchJ, show ¬ (5 : Nat) = 3 by decide, show ¬ (5 : Nat) = 4 by decide, if_false, if_true] at hch
          exact mw_mem hch
        · rintro rfl
          simp only [mchJ, show ¬ (6 : Nat) = 3 by decide, show ¬ (6 : Nat) = 4 by decide, show ¬ (6 : Nat) = 5 by decide, if_false, if_true] at hch
          exact mw_mem hch
  · exact ms_str F hd0 hc hsl h
theorem mret_no {st : List Value} (h : mretv M st = some (.inl (pc', L', st', H')) ∨ mretl M st = some (.inl (pc', L', st', H')) ∨ mreta M st = some (.inl (pc', L', st', H')) ∨ mretn M st = some (.inl (pc', L', st', H'))) : False := by
  rcases h with h | h | h | h
  · unfold mretv at h
    repeat' split at h
    all_goals cases h
  · unfold mretl at h
    repeat' split at h
    all_goals cases h
  · unfold mreta at h
    repeat' split at h
    all_goals cases h
  · unfold mretn at h
    repeat' split at h
    all_goals cases h
theorem mstep_snd {i : Instr} (F : mF p s m args meth c M base sa D cA xs sl d R) (hM : mcn (mown M) = (mname M).cls) (hd : decode (mbytes M) pc = .ok (i, mlen i pc)) (hc : cells ≤ R.cells) (hsl : slots ≤ R.slots) (h : mstep xs sl d M i pc L st H = some (.inl (pc', L', st', H'))) : H.2.1 ≤ H'.2.1 ∧ H.2.2 ≤ H'.2.2 ∧ (cells + (H'.2.1 - H.2.1) ≤ R.cells → slots + (H'.2.2 - H.2.2) ≤ R.slots → mG p l e R s m args below meth c Q base sa D cA M (cells + (H'.2.1 - H.2.1)) (slots + (H'.2.2 - H.2.2)) pc' L' st' H' → mG p l e R s m args below meth c Q base sa D cA M cells slots pc L st H) := by
  cases i with
  | iload_n k => exact ms_same (ms_iload_n F hd h)
  | iload k => exact ms_same (ms_iload F hd h)
  | lload_n k => exact ms_same (ms_lload_n F hd h)
  | lload k => exact ms_same (ms_lload F hd h)
  | aload_n k => exact ms_same (ms_aload_n F hd h)
  | aload k => exact ms_same (ms_aload F hd h)
  | istore_n k => exact ms_same (ms_istore_n F hd h)
  | istore k => exact ms_same (ms_istore F hd h)
  | lstore_n k => exact ms_same (ms_lstore_n F hd h)
  | lstore k => exact ms_same (ms_lstore F hd h)
  | astore_n k => exact ms_same (ms_astore_n F hd h)
  | astore k => exact ms_same (ms_astore F hd h)
  | iinc k n => exact ms_same (ms_incr F hd h)
  | iconst k => exact ms_same (ms_iconst F hd h)
  | bipush k => exact ms_same (ms_bipush F hd h)
  | sipush k => exact ms_same (ms_sipush F hd h)
  | lconst k => exact ms_same (ms_lconst F hd h)
  | ldc k => exact ms_same (ms_ldc F hd h)
  | ldc_w k => exact ms_same (ms_ldcw F hd h)
  | ldc2_w k => exact ms_same (ms_ldc2 F hd h)
  | aconst_null => exact ms_same (ms_null F hd h)
  | iadd => exact ms_same (ms_ii h (fun k => lv_iadd F.1 F.2.1 hd k))
  | isub => exact ms_same (ms_ii h (fun k => lv_isub F.1 F.2.1 hd k))
  | imul => exact ms_same (ms_ii h (fun k => lv_imul F.1 F.2.1 hd k))
  | iand => exact ms_same (ms_ii h (fun k => lv_iand F.1 F.2.1 hd k))
  | ior => exact ms_same (ms_ii h (fun k => lv_ior F.1 F.2.1 hd k))
  | ixor => exact ms_same (ms_ii h (fun k => lv_ixor F.1 F.2.1 hd k))
  | ishl => exact ms_same (ms_ii h (fun k => lv_ishl F.1 F.2.1 hd k))
  | ishr => exact ms_same (ms_ii h (fun k => lv_ishr F.1 F.2.1 hd k))
  | iushr => exact ms_same (ms_ii h (fun k => lv_iushr F.1 F.2.1 hd rfl k))
  | idiv => exact ms_same (ms_divi h (fun hy k => lv_idiv F.1 F.2.1 hd hy k))
  | irem => exact ms_same (ms_divi h (fun hy k => lv_irem F.1 F.2.1 hd hy k))
  | ldiv => exact ms_same (ms_divl h (fun hy k => lv_ldiv F.1 F.2.1 hd hy k))
  | lrem => exact ms_same (ms_divl h (fun hy k => lv_lrem F.1 F.2.1 hd hy k))
  | ladd => exact ms_same (ms_ll h (fun k => lv_ladd F.1 F.2.1 hd k))
  | lsub => exact ms_same (ms_ll h (fun k => lv_lsub F.1 F.2.1 hd k))
  | lmul => exact ms_same (ms_ll h (fun k => lv_lmul F.1 F.2.1 hd k))
  | ineg => exact ms_same (ms_un (fun _ => rfl) h (fun k => lv_ineg F.1 F.2.1 hd k))
  | i2l => exact ms_same (ms_un (fun _ => rfl) h (fun k => lv_i2l F.1 F.2.1 hd rfl k))
  | i2b => exact ms_same (ms_un (fun _ => rfl) h (fun k => lv_i2b F.1 F.2.1 hd rfl k))
  | lcmp => exact ms_same (ms_lcmp F hd h)
  | dup => exact ms_same (ms_dup F hd h)
  | pop => exact ms_same (ms_pop F hd h)
  | dup2 => exact ms_same (ms_dup2 F hd h)
  | if_icmp k off => exact ms_same (ms_icmp F hd h)
  | ifCond k off => exact ms_same (ms_if0 F hd h)
  | ifnull off => exact ms_same (ms_ifn F hd h)
  | ifnonnull off => exact ms_same (ms_ifnn F hd h)
  | goto off => exact ms_same (ms_goto F hd h)
  | tableswitch a b c2 d2 => exact ms_same (ms_tsw F hd h)
  | lookupswitch a b => exact ms_same (ms_lsw F hd h)
  | getfield k => exact ms_same (ms_getf F hd h)
  | putfield k => exact ms_same (ms_putf F hd hM h)
  | iaload => exact ms_same (ms_ialdx F hd h)
  | baload => exact ms_same (ms_bald F hd h)
  | laload => exact ms_same (ms_lald F hd h)
  | aaload => exact ms_same (ms_aald F hd h)
  | iastore => exact ms_same (ms_iast F hd h)
  | bastore => exact ms_same (ms_bast F hd h)
  | lastore => exact ms_same (ms_last F hd h)
  | aastore => exact ms_same (ms_aast F hd h)
  | arraylength => exact ms_same (ms_alen F hd h)
  | new k => exact ms_newo F hd h
  | newarray k => exact ms_newarr F hd h
  | anewarray k => exact ms_anewarr F hd h
  | invokevirtual k => exact ms_same (ms_inv F (by decide) (fun q => absurd q (by decide)) (fun _ => hd) hc hsl h)
  | invokestatic k => exact ms_same (ms_inv F (by decide) (fun _ => hd) (fun q => absurd q (by decide)) hc hsl h)
  | invokespecial k => exact ms_same (ms_inv F (by decide) (fun q => absurd q (by decide)) (fun q => absurd q (by decide)) hc hsl h)
  | ireturn => exact absurd (Or.inl h) mret_no
  | lreturn => exact absurd (Or.inr (Or.inl h)) mret_no
  | areturn => exact absurd (Or.inr (Or.inr (Or.inl h))) mret_no
  | return_ => exact absurd (Or.inr (Or.inr (Or.inr h))) mret_no
  | _ => cases h
end MALL
