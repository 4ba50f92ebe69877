/-! RUNS: a rule an instruction, cheap to use -/
section FAST
variable {xs : Nat → Int32} {sl d M pc pc' : Nat} {L L' : mL} {st st' : List Value} {H H' : mH} {r : Option Value × mH}
theorem q_iload_n {k : Fin 4} {x : Int32} (hi : mop M pc = some (.iload_n k)) (hl : L[(k : Nat)]? = some (some (.int x))) (hp : pc + 1 = pc') : Runs xs sl d M pc L st H r ↔ Runs xs sl d M pc' L (.int x :: st) H r := by
  subst hp
  exact run_step hi (by show mldi L k _ st H = _; simp only [mldi, hl])
theorem q_istore_n {k : Fin 4} {x : Int32} (hi : mop M pc = some (.istore_n k)) (hl : (k : Nat) < L.length) (hs : mst1 L k (.int x) = L') (hp : pc + 1 = pc') : Runs xs sl d M pc L (.int x :: st) H r ↔ Runs xs sl d M pc' L' st H r := by
  subst hp
  exact run_step hi (by show msti L k _ (.int x :: st) H = _; simp only [msti, if_pos hl, hs])
theorem q_iload {k : Nat} {x : Int32} (hi : mop M pc = some (.iload k)) (hl : L[(k : Nat)]? = some (some (.int x))) (hp : pc + 2 = pc') : Runs xs sl d M pc L st H r ↔ Runs xs sl d M pc' L (.int x :: st) H r := by
  subst hp
  exact run_step hi (by show mldi L k _ st H = _; simp only [mldi, hl])
theorem q_istore {k : Nat} {x : Int32} (hi : mop M pc = some (.istore k)) (hl : (k : Nat) < L.length) (hs : mst1 L k (.int x) = L') (hp : pc + 2 = pc') : Runs xs sl d M pc L (.int x :: st) H r ↔ Runs xs sl d M pc' L' st H r := by
  subst hp
  exact run_step hi (by show msti L k _ (.int x :: st) H = _; simp only [msti, if_pos hl, hs])
theorem q_lload_n {k : Fin 4} {x : Int64} (hi : mop M pc = some (.lload_n k)) (hl : L[(k : Nat)]? = some (some (.long x))) (hp : pc + 1 = pc') : Runs xs sl d M pc L st H r ↔ Runs xs sl d M pc' L (.long x :: st) H r := by
  subst hp
  exact run_step hi (by show mldl L k _ st H = _; simp only [mldl, hl])
theorem q_lstore_n {k : Fin 4} {x : Int64} (hi : mop M pc = some (.lstore_n k)) (hl : (k : Nat) + 1 < L.length) (hs : mst2 L k (.long x) = L') (hp : pc + 1 = pc') : Runs xs sl d M pc L (.long x :: st) H r ↔ Runs xs sl d M pc' L' st H r := by
  subst hp
  exact run_step hi (by show mstl L k _ (.long x :: st) H = _; simp only [mstl, if_pos hl, hs])
theorem q_lload {k : Nat} {x : Int64} (hi : mop M pc = some (.lload k)) (hl : L[(k : Nat)]? = some (some (.long x))) (hp : pc + 2 = pc') : Runs xs sl d M pc L st H r ↔ Runs xs sl d M pc' L (.long x :: st) H r := by
  subst hp
  exact run_step hi (by show mldl L k _ st H = _; simp only [mldl, hl])
theorem q_lstore {k : Nat} {x : Int64} (hi : mop M pc = some (.lstore k)) (hl : (k : Nat) + 1 < L.length) (hs : mst2 L k (.long x) = L') (hp : pc + 2 = pc') : Runs xs sl d M pc L (.long x :: st) H r ↔ Runs xs sl d M pc' L' st H r := by
  subst hp
  exact run_step hi (by show mstl L k _ (.long x :: st) H = _; simp only [mstl, if_pos hl, hs])
theorem q_aload_n {k : Fin 4} {x : Nat} (hi : mop M pc = some (.aload_n k)) (hl : L[(k : Nat)]? = some (some (.ref x))) (hp : pc + 1 = pc') : Runs xs sl d M pc L st H r ↔ Runs xs sl d M pc' L (.ref x :: st) H r := by
  subst hp
  exact run_step hi (by show mlda L k _ st H = _; simp only [mlda, hl])
theorem q_astore_n {k : Fin 4} {x : Nat} (hi : mop M pc = some (.astore_n k)) (hl : (k : Nat) < L.length) (hs : mst1 L k (.ref x) = L') (hp : pc + 1 = pc') : Runs xs sl d M pc L (.ref x :: st) H r ↔ Runs xs sl d M pc' L' st H r := by
  subst hp
  exact run_step hi (by show msta L k _ (.ref x :: st) H = _; simp only [msta, if_pos hl, hs])
theorem q_aload_nN {k : Fin 4} (hi : mop M pc = some (.aload_n k)) (hl : L[(k : Nat)]? = some (some (.null))) (hp : pc + 1 = pc') : Runs xs sl d M pc L st H r ↔ Runs xs sl d M pc' L (.null :: st) H r := by
  subst hp
  exact run_step hi (by show mlda L k _ st H = _; simp only [mlda, hl])
theorem q_astore_nN {k : Fin 4} (hi : mop M pc = some (.astore_n k)) (hl : (k : Nat) < L.length) (hs : mst1 L k (.null) = L') (hp : pc + 1 = pc') : Runs xs sl d M pc L (.null :: st) H r ↔ Runs xs sl d M pc' L' st H r := by
  subst hp
  exact run_step hi (by show msta L k _ (.null :: st) H = _; simp only [msta, if_pos hl, hs])
theorem q_aload_nR {k : Fin 4} {x : Nat} (hi : mop M pc = some (.aload_n k)) (hl : L[(k : Nat)]? = some (some (.retAddr x))) (hp : pc + 1 = pc') : Runs xs sl d M pc L st H r ↔ Runs xs sl d M pc' L (.retAddr x :: st) H r := by
  subst hp
  exact run_step hi (by show mlda L k _ st H = _; simp only [mlda, hl])
theorem q_astore_nR {k : Fin 4} {x : Nat} (hi : mop M pc = some (.astore_n k)) (hl : (k : Nat) < L.length) (hs : mst1 L k (.retAddr x) = L') (hp : pc + 1 = pc') : Runs xs sl d M pc L (.retAddr x :: st) H r ↔ Runs xs sl d M pc' L' st H r := by
  subst hp
  exact run_step hi (by show msta L k _ (.retAddr x :: st) H = _; simp only [msta, if_pos hl, hs])
theorem q_aload {k : Nat} {x : Nat} (hi : mop M pc = some (.aload k)) (hl : L[(k : Nat)]? = some (some (.ref x))) (hp : pc + 2 = pc') : Runs xs sl d M pc L st H r ↔ Runs xs sl d M pc' L (.ref x :: st) H r := by
  subst hp
  exact run_step hi (by show mlda L k _ st H = _; simp only [mlda, hl])
theorem q_astore {k : Nat} {x : Nat} (hi : mop M pc = some (.astore k)) (hl : (k : Nat) < L.length) (hs : mst1 L k (.ref x) = L') (hp : pc + 2 = pc') : Runs xs sl d M pc L (.ref x :: st) H r ↔ Runs xs sl d M pc' L' st H r := by
  subst hp
  exact run_step hi (by show msta L k _ (.ref x :: st) H = _; simp only [msta, if_pos hl, hs])
theorem q_aloadN {k : Nat} (hi : mop M pc = some (.aload k)) (hl : L[(k : Nat)]? = some (some (.null))) (hp : pc + 2 = pc') : Runs xs sl d M pc L st H r ↔ Runs xs sl d M pc' L (.null :: st) H r := by
  subst hp
  exact run_step hi (by show mlda L k _ st H = _; simp only [mlda, hl])
theorem q_astoreN {k : Nat} (hi : mop M pc = some (.astore k)) (hl : (k : Nat) < L.length) (hs : mst1 L k (.null) = L') (hp : pc + 2 = pc') : Runs xs sl d M pc L (.null :: st) H r ↔ Runs xs sl d M pc' L' st H r := by
  subst hp
  exact run_step hi (by show msta L k _ (.null :: st) H = _; simp only [msta, if_pos hl, hs])
theorem q_aloadR {k : Nat} {x : Nat} (hi : mop M pc = some (.aload k)) (hl : L[(k : Nat)]? = some (some (.retAddr x))) (hp : pc + 2 = pc') : Runs xs sl d M pc L st H r ↔ Runs xs sl d M pc' L (.retAddr x :: st) H r := by
  subst hp
  exact run_step hi (by show mlda L k _ st H = _; simp only [mlda, hl])
theorem q_astoreR {k : Nat} {x : Nat} (hi : mop M pc = some (.astore k)) (hl : (k : Nat) < L.length) (hs : mst1 L k (.retAddr x) = L') (hp : pc + 2 = pc') : Runs xs sl d M pc L (.retAddr x :: st) H r ↔ Runs xs sl d M pc' L' st H r := by
  subst hp
  exact run_step hi (by show msta L k _ (.retAddr x :: st) H = _; simp only [msta, if_pos hl, hs])
theorem q_iinc {k : Nat} {n : Int} {x : Int32} (hi : mop M pc = some (.iinc k n)) (hx : L[k]? = some (some (.int x))) (hl : k < L.length) (hs : mst1 L k (.int (x + Int32.ofInt n)) = L') (hp : pc + 3 = pc') : Runs xs sl d M pc L st H r ↔ Runs xs sl d M pc' L' st H r := by
  subst hp
  exact run_step hi (by show mincr L k n pc st H = _; simp only [mincr, hx, if_pos hl, hs])
theorem q_iconst {n : Int} {v : Int32} (hi : mop M pc = some (.iconst n)) (hv : Int32.ofInt n = v) (hp : pc + 1 = pc') : Runs xs sl d M pc L st H r ↔ Runs xs sl d M pc' L (.int v :: st) H r := by
  subst hp
  exact run_step hi (by rw [← hv]; rfl)
theorem q_bipush {n : Int} {v : Int32} (hi : mop M pc = some (.bipush n)) (hv : (Int8.ofInt n).toInt32 = v) (hp : pc + 2 = pc') : Runs xs sl d M pc L st H r ↔ Runs xs sl d M pc' L (.int v :: st) H r := by
  subst hp
  exact run_step hi (by rw [← hv]; rfl)
theorem q_sipush {n : Int} {v : Int32} (hi : mop M pc = some (.sipush n)) (hv : (Int16.ofInt n).toInt32 = v) (hp : pc + 3 = pc') : Runs xs sl d M pc L st H r ↔ Runs xs sl d M pc' L (.int v :: st) H r := by
  subst hp
  exact run_step hi (by rw [← hv]; rfl)
theorem q_lconst {n : Fin 2} {v : Int64} (hi : mop M pc = some (.lconst n)) (hv : Int64.ofNat n = v) (hp : pc + 1 = pc') : Runs xs sl d M pc L st H r ↔ Runs xs sl d M pc' L (.long v :: st) H r := by
  subst hp
  exact run_step hi (by rw [← hv]; rfl)
theorem q_null (hi : mop M pc = some (.aconst_null)) (hp : pc + 1 = pc') : Runs xs sl d M pc L st H r ↔ Runs xs sl d M pc' L (.null :: st) H r := by
  subst hp
  exact run_step hi rfl
theorem q_ldc {idx o : Nat} {v : Int32} (hi : mop M pc = some (.ldc idx)) (ho : mown M = o) (hv : mCi o idx = some v) (hp : pc + 2 = pc') : Runs xs sl d M pc L st H r ↔ Runs xs sl d M pc' L (.int v :: st) H r := by
  subst hp
  exact run_step hi (by show mldcs M idx _ L st H = _; simp only [mldcs, ho, hv])
theorem q_ldcS {idx o j : Nat} (hi : mop M pc = some (.ldc idx)) (ho : mown M = o) (hc : mCi o idx = none) (hv : mSt o idx = some j) (hp : pc + 2 = pc') : Runs xs sl d M pc L st H r ↔ Runs xs sl d M pc' L (.retAddr j :: st) H r := by
  subst hp
  exact run_step hi (by show mldcs M idx _ L st H = _; simp only [mldcs, ho, hc, hv])
theorem q_strlen {idx o j : Nat} (hi : mop M pc = some (.invokevirtual idx)) (ho : mown M = o) (hn : mInv o idx = none) (hv : mSv o idx = some 0) (hs : mcat st ≤ 8) (hp : pc + 3 = pc') (hj : j < 13) : Runs xs sl (d + 4) M pc L (.retAddr j :: st) H r ↔ Runs xs sl (d + 4) M pc' L (.int (nI (slen j)) :: st) H r := by
  subst hp
  refine run_step hi ?_
  show minv 0 (d + 4) M pc idx L (.retAddr j :: st) H = _
  simp only [minv, ho, hn, mstr, hv]
  rw [if_neg (by rintro (h | h | h | h) <;> first | exact h trivial | omega)]
  rfl
theorem q_strat {idx o j i : Nat} (hi : mop M pc = some (.invokevirtual idx)) (ho : mown M = o) (hn : mInv o idx = none) (hv : mSv o idx = some 1) (hs : mcat st ≤ 8) (hp : pc + 3 = pc') (hj : j < 13) (hl : i < slen j) : Runs xs sl (d + 4) M pc L (.int (nI i) :: .retAddr j :: st) H r ↔ Runs xs sl (d + 4) M pc' L (.int (sch j i) :: st) H r := by
  subst hp
  have h31 := slen_ok j hj
  have e : (nI i).toNatClampNeg = i := nI_clamp (by omega)
  have n0 := nI_pos (n := i) (by omega)
  refine run_step hi ?_
  show minv 0 (d + 4) M pc idx L (.int (nI i) :: .retAddr j :: st) H = _
  simp only [minv, ho, hn, mstr, hv, e]
  rw [if_neg (by rintro (h | h | h | h | h | h) <;> first | omega | exact h trivial | exact n0 h)]
theorem q_ldc_w {idx o : Nat} {v : Int32} (hi : mop M pc = some (.ldc_w idx)) (ho : mown M = o) (hv : mCi o idx = some v) (hp : pc + 3 = pc') : Runs xs sl d M pc L st H r ↔ Runs xs sl d M pc' L (.int v :: st) H r := by
  subst hp
  exact run_step hi (by show mldc M idx _ L st H = _; simp only [mldc, ho, hv])
theorem q_ldc2_w {idx o : Nat} {v : Int64} (hi : mop M pc = some (.ldc2_w idx)) (ho : mown M = o) (hv : mCl o idx = some v) (hp : pc + 3 = pc') : Runs xs sl d M pc L st H r ↔ Runs xs sl d M pc' L (.long v :: st) H r := by
  subst hp
  exact run_step hi (by show mldc2 M idx _ L st H = _; simp only [mldc2, ho, hv])
theorem q_iadd {x y : Int32} (hi : mop M pc = some (.iadd)) (hp : pc + 1 = pc') : Runs xs sl d M pc L (.int y :: .int x :: st) H r ↔ Runs xs sl d M pc' L (.int (x + y) :: st) H r := by
  subst hp
  exact run_step hi rfl
theorem q_isub {x y : Int32} (hi : mop M pc = some (.isub)) (hp : pc + 1 = pc') : Runs xs sl d M pc L (.int y :: .int x :: st) H r ↔ Runs xs sl d M pc' L (.int (x - y) :: st) H r := by
  subst hp
  exact run_step hi rfl
theorem q_imul {x y : Int32} (hi : mop M pc = some (.imul)) (hp : pc + 1 = pc') : Runs xs sl d M pc L (.int y :: .int x :: st) H r ↔ Runs xs sl d M pc' L (.int (x * y) :: st) H r := by
  subst hp
  exact run_step hi rfl
theorem q_iand {x y : Int32} (hi : mop M pc = some (.iand)) (hp : pc + 1 = pc') : Runs xs sl d M pc L (.int y :: .int x :: st) H r ↔ Runs xs sl d M pc' L (.int (x &&& y) :: st) H r := by
  subst hp
  exact run_step hi rfl
theorem q_ior {x y : Int32} (hi : mop M pc = some (.ior)) (hp : pc + 1 = pc') : Runs xs sl d M pc L (.int y :: .int x :: st) H r ↔ Runs xs sl d M pc' L (.int (x ||| y) :: st) H r := by
  subst hp
  exact run_step hi rfl
theorem q_ixor {x y : Int32} (hi : mop M pc = some (.ixor)) (hp : pc + 1 = pc') : Runs xs sl d M pc L (.int y :: .int x :: st) H r ↔ Runs xs sl d M pc' L (.int (x ^^^ y) :: st) H r := by
  subst hp
  exact run_step hi rfl
theorem q_ishl {x y : Int32} (hi : mop M pc = some (.ishl)) (hp : pc + 1 = pc') : Runs xs sl d M pc L (.int y :: .int x :: st) H r ↔ Runs xs sl d M pc' L (.int (x <<< (y &&& 31)) :: st) H r := by
  subst hp
  exact run_step hi rfl
theorem q_ishr {x y : Int32} (hi : mop M pc = some (.ishr)) (hp : pc + 1 = pc') : Runs xs sl d M pc L (.int y :: .int x :: st) H r ↔ Runs xs sl d M pc' L (.int (x >>> (y &&& 31)) :: st) H r := by
  subst hp
  exact run_step hi rfl
theorem q_iushr {x y : Int32} (hi : mop M pc = some (.iushr)) (hp : pc + 1 = pc') : Runs xs sl d M pc L (.int y :: .int x :: st) H r ↔ Runs xs sl d M pc' L (.int ((x.toUInt32 >>> (y.toUInt32 &&& Int32.toUInt32 31)).toInt32) :: st) H r := by
  subst hp
  exact run_step hi rfl
theorem q_ladd {x y : Int64} (hi : mop M pc = some (.ladd)) (hp : pc + 1 = pc') : Runs xs sl d M pc L (.long y :: .long x :: st) H r ↔ Runs xs sl d M pc' L (.long (x + y) :: st) H r := by
  subst hp
  exact run_step hi rfl
theorem q_lsub {x y : Int64} (hi : mop M pc = some (.lsub)) (hp : pc + 1 = pc') : Runs xs sl d M pc L (.long y :: .long x :: st) H r ↔ Runs xs sl d M pc' L (.long (x - y) :: st) H r := by
  subst hp
  exact run_step hi rfl
theorem q_lmul {x y : Int64} (hi : mop M pc = some (.lmul)) (hp : pc + 1 = pc') : Runs xs sl d M pc L (.long y :: .long x :: st) H r ↔ Runs xs sl d M pc' L (.long (x * y) :: st) H r := by
  subst hp
  exact run_step hi rfl
theorem q_idiv {x y : Int32} (hi : mop M pc = some (.idiv)) (hy : ¬ y = 0) (hp : pc + 1 = pc') : Runs xs sl d M pc L (.int y :: .int x :: st) H r ↔ Runs xs sl d M pc' L (.int (x / y) :: st) H r := by
  subst hp
  exact run_step hi (if_neg hy)
theorem q_irem {x y : Int32} (hi : mop M pc = some (.irem)) (hy : ¬ y = 0) (hp : pc + 1 = pc') : Runs xs sl d M pc L (.int y :: .int x :: st) H r ↔ Runs xs sl d M pc' L (.int (x - x / y * y) :: st) H r := by
  subst hp
  exact run_step hi (if_neg hy)
theorem q_ldiv {x y : Int64} (hi : mop M pc = some (.ldiv)) (hy : ¬ y = 0) (hp : pc + 1 = pc') : Runs xs sl d M pc L (.long y :: .long x :: st) H r ↔ Runs xs sl d M pc' L (.long (x / y) :: st) H r := by
  subst hp
  exact run_step hi (if_neg hy)
theorem q_lrem {x y : Int64} (hi : mop M pc = some (.lrem)) (hy : ¬ y = 0) (hp : pc + 1 = pc') : Runs xs sl d M pc L (.long y :: .long x :: st) H r ↔ Runs xs sl d M pc' L (.long (x - x / y * y) :: st) H r := by
  subst hp
  exact run_step hi (if_neg hy)
theorem q_lcmp {x y : Int64} (hi : mop M pc = some (.lcmp)) (hp : pc + 1 = pc') : Runs xs sl d M pc L (.long y :: .long x :: st) H r ↔ Runs xs sl d M pc' L (.int (lg_cmp x y) :: st) H r := by
  subst hp
  exact run_step hi rfl
theorem q_ineg {x : Int32} (hi : mop M pc = some (.ineg)) (hp : pc + 1 = pc') : Runs xs sl d M pc L (.int x :: st) H r ↔ Runs xs sl d M pc' L (.int (-x) :: st) H r := by
  subst hp
  exact run_step hi rfl
theorem q_i2l {x : Int32} (hi : mop M pc = some (.i2l)) (hp : pc + 1 = pc') : Runs xs sl d M pc L (.int x :: st) H r ↔ Runs xs sl d M pc' L (.long x.toInt64 :: st) H r := by
  subst hp
  exact run_step hi rfl
theorem q_i2b {x : Int32} (hi : mop M pc = some (.i2b)) (hp : pc + 1 = pc') : Runs xs sl d M pc L (.int x :: st) H r ↔ Runs xs sl d M pc' L (.int x.toInt8.toInt32 :: st) H r := by
  subst hp
  exact run_step hi rfl
theorem q_dup {v : Value} (hi : mop M pc = some (.dup)) (hv : v.category = 1) (hp : pc + 1 = pc') : Runs xs sl d M pc L (v :: st) H r ↔ Runs xs sl d M pc' L (v :: v :: st) H r := by
  subst hp
  exact run_step hi (if_pos hv)
theorem q_pop {v : Value} (hi : mop M pc = some (.pop)) (hv : v.category = 1) (hp : pc + 1 = pc') : Runs xs sl d M pc L (v :: st) H r ↔ Runs xs sl d M pc' L st H r := by
  subst hp
  exact run_step hi (if_pos hv)
theorem q_dup2 {v u : Value} (hi : mop M pc = some (.dup2)) (hv : v.category = 1) (hu : u.category = 1) (hp : pc + 1 = pc') : Runs xs sl d M pc L (v :: u :: st) H r ↔ Runs xs sl d M pc' L (v :: u :: v :: u :: st) H r := by
  subst hp
  exact run_step hi (if_pos ⟨hv, hu⟩)
theorem q_icmp_eq {off : Int} {t : Nat} {x y : Int32} (hi : mop M pc = some (.if_icmp .eq off)) (hj : mjmp pc off = some t) (hp : pc + 3 = pc') : Runs xs sl d M pc L (.int y :: .int x :: st) H r ↔ if x = y then Runs xs sl d M t L st H r else Runs xs sl d M pc' L st H r := by
  subst hp
  exact run_if hi (by show mbr _ pc off L st H = _; simp only [mbr, hj]; rfl)
theorem q_if_eq {off : Int} {t : Nat} {x : Int32} (hi : mop M pc = some (.ifCond .eq off)) (hj : mjmp pc off = some t) (hp : pc + 3 = pc') : Runs xs sl d M pc L (.int x :: st) H r ↔ if x = 0 then Runs xs sl d M t L st H r else Runs xs sl d M pc' L st H r := by
  subst hp
  exact run_if hi (by show mbr _ pc off L st H = _; simp only [mbr, hj]; rfl)
theorem q_icmp_ne {off : Int} {t : Nat} {x y : Int32} (hi : mop M pc = some (.if_icmp .ne off)) (hj : mjmp pc off = some t) (hp : pc + 3 = pc') : Runs xs sl d M pc L (.int y :: .int x :: st) H r ↔ if ¬ x = y then Runs xs sl d M t L st H r else Runs xs sl d M pc' L st H r := by
  subst hp
  exact run_if hi (by show mbr _ pc off L st H = _; simp only [mbr, hj]; rfl)
theorem q_if_ne {off : Int} {t : Nat} {x : Int32} (hi : mop M pc = some (.ifCond .ne off)) (hj : mjmp pc off = some t) (hp : pc + 3 = pc') : Runs xs sl d M pc L (.int x :: st) H r ↔ if ¬ x = 0 then Runs xs sl d M t L st H r else Runs xs sl d M pc' L st H r := by
  subst hp
  exact run_if hi (by show mbr _ pc off L st H = _; simp only [mbr, hj]; rfl)
theorem q_icmp_lt {off : Int} {t : Nat} {x y : Int32} (hi : mop M pc = some (.if_icmp .lt off)) (hj : mjmp pc off = some t) (hp : pc + 3 = pc') : Runs xs sl d M pc L (.int y :: .int x :: st) H r ↔ if x < y then Runs xs sl d M t L st H r else Runs xs sl d M pc' L st H r := by
  subst hp
  exact run_if hi (by show mbr _ pc off L st H = _; simp only [mbr, hj]; rfl)
theorem q_if_lt {off : Int} {t : Nat} {x : Int32} (hi : mop M pc = some (.ifCond .lt off)) (hj : mjmp pc off = some t) (hp : pc + 3 = pc') : Runs xs sl d M pc L (.int x :: st) H r ↔ if x < 0 then Runs xs sl d M t L st H r else Runs xs sl d M pc' L st H r := by
  subst hp
  exact run_if hi (by show mbr _ pc off L st H = _; simp only [mbr, hj]; rfl)
theorem q_icmp_ge {off : Int} {t : Nat} {x y : Int32} (hi : mop M pc = some (.if_icmp .ge off)) (hj : mjmp pc off = some t) (hp : pc + 3 = pc') : Runs xs sl d M pc L (.int y :: .int x :: st) H r ↔ if y ≤ x then Runs xs sl d M t L st H r else Runs xs sl d M pc' L st H r := by
  subst hp
  exact run_if hi (by show mbr _ pc off L st H = _; simp only [mbr, hj]; rfl)
theorem q_if_ge {off : Int} {t : Nat} {x : Int32} (hi : mop M pc = some (.ifCond .ge off)) (hj : mjmp pc off = some t) (hp : pc + 3 = pc') : Runs xs sl d M pc L (.int x :: st) H r ↔ if 0 ≤ x then Runs xs sl d M t L st H r else Runs xs sl d M pc' L st H r := by
  subst hp
  exact run_if hi (by show mbr _ pc off L st H = _; simp only [mbr, hj]; rfl)
theorem q_icmp_gt {off : Int} {t : Nat} {x y : Int32} (hi : mop M pc = some (.if_icmp .gt off)) (hj : mjmp pc off = some t) (hp : pc + 3 = pc') : Runs xs sl d M pc L (.int y :: .int x :: st) H r ↔ if y < x then Runs xs sl d M t L st H r else Runs xs sl d M pc' L st H r := by
  subst hp
  exact run_if hi (by show mbr _ pc off L st H = _; simp only [mbr, hj]; rfl)
theorem q_if_gt {off : Int} {t : Nat} {x : Int32} (hi : mop M pc = some (.ifCond .gt off)) (hj : mjmp pc off = some t) (hp : pc + 3 = pc') : Runs xs sl d M pc L (.int x :: st) H r ↔ if 0 < x then Runs xs sl d M t L st H r else Runs xs sl d M pc' L st H r := by
  subst hp
  exact run_if hi (by show mbr _ pc off L st H = _; simp only [mbr, hj]; rfl)
theorem q_icmp_le {off : Int} {t : Nat} {x y : Int32} (hi : mop M pc = some (.if_icmp .le off)) (hj : mjmp pc off = some t) (hp : pc + 3 = pc') : Runs xs sl d M pc L (.int y :: .int x :: st) H r ↔ if x ≤ y then Runs xs sl d M t L st H r else Runs xs sl d M pc' L st H r := by
  subst hp
  exact run_if hi (by show mbr _ pc off L st H = _; simp only [mbr, hj]; rfl)
theorem q_if_le {off : Int} {t : Nat} {x : Int32} (hi : mop M pc = some (.ifCond .le off)) (hj : mjmp pc off = some t) (hp : pc + 3 = pc') : Runs xs sl d M pc L (.int x :: st) H r ↔ if x ≤ 0 then Runs xs sl d M t L st H r else Runs xs sl d M pc' L st H r := by
  subst hp
  exact run_if hi (by show mbr _ pc off L st H = _; simp only [mbr, hj]; rfl)
theorem q_goto {off : Int} {t : Nat} (hi : mop M pc = some (.goto off)) (hj : mjmp pc off = some t) : Runs xs sl d M pc L st H r ↔ Runs xs sl d M t L st H r := run_step hi (by show mgo pc off L st H = _; simp only [mgo, hj])
theorem q_ifnull {off : Int} {a : Nat} (hi : mop M pc = some (.ifnull off)) (hp : pc + 3 = pc') : Runs xs sl d M pc L (.ref a :: st) H r ↔ Runs xs sl d M pc' L st H r := by
  subst hp
  exact run_step hi rfl
theorem q_ifnullN {off : Int} {t : Nat} (hi : mop M pc = some (.ifnull off)) (hj : mjmp pc off = some t) : Runs xs sl d M pc L (.null :: st) H r ↔ Runs xs sl d M t L st H r := run_step hi (by show mgo pc off L st H = _; simp only [mgo, hj])
theorem q_ifnonnull {off : Int} {a t : Nat} (hi : mop M pc = some (.ifnonnull off)) (hj : mjmp pc off = some t) : Runs xs sl d M pc L (.ref a :: st) H r ↔ Runs xs sl d M t L st H r := run_step hi (by show mgo pc off L st H = _; simp only [mgo, hj])
theorem q_ifnonnullN {off : Int} (hi : mop M pc = some (.ifnonnull off)) (hp : pc + 3 = pc') : Runs xs sl d M pc L (.null :: st) H r ↔ Runs xs sl d M pc' L st H r := by
  subst hp
  exact run_step hi rfl
theorem q_tsw {dflt lo hi2 off : Int} {offs : Array Int} {x : Int32} {t : Nat} (hi : mop M pc = some (.tableswitch dflt lo hi2 offs)) (ho : mswo x dflt lo hi2 offs = some off) (hj : mjmp pc off = some t) : Runs xs sl d M pc L (.int x :: st) H r ↔ Runs xs sl d M t L st H r := run_step hi (by show mtsw dflt lo hi2 offs pc L (.int x :: st) H = _; simp only [mtsw, ho, mgo, hj])
theorem q_tswD {dflt lo hi2 : Int} {offs : Array Int} {x : Int32} {t : Nat} (hi : mop M pc = some (.tableswitch dflt lo hi2 offs)) (hj : mjmp pc dflt = some t) (h : x.toInt < lo ∨ hi2 < x.toInt) : Runs xs sl d M pc L (.int x :: st) H r ↔ Runs xs sl d M t L st H r := q_tsw hi (if_pos h) hj
theorem q_lsw {dflt : Int} {ps : Array (Int × Int)} {x : Int32} {t : Nat} (hi : mop M pc = some (.lookupswitch dflt ps)) (hs : (ps.toList.zip (ps.toList.drop 1)).all (fun (a, next) => a.1 < next.1) = true) (hj : mjmp pc (Op.lookupswitch.offset ps.toList dflt x.toInt) = some t) : Runs xs sl d M pc L (.int x :: st) H r ↔ Runs xs sl d M t L st H r := run_step hi (by show mlsw dflt ps pc L (.int x :: st) H = _; simp only [mlsw, if_pos hs, mgo, hj])
theorem q_getf {o idx ci k a : Nat} (hi : mop M pc = some (.getfield idx)) (ho : mown M = o) (hf : mFld o idx = some (ci, k)) (hp : pc + 3 = pc') : Runs xs sl d M pc L (.ref a :: st) H r ↔ ∃ v, hO H a ci k = some v ∧ Runs xs sl d M pc' L (v :: st) H r := run_getf hi (ho ▸ hf) hp
theorem q_putf {o idx ci k a : Nat} {v : Value} (hi : mop M pc = some (.putfield idx)) (ho : mown M = o) (hf : mFld o idx = some (ci, k)) (ht : mfit (mTy ci k) v = true) (hm : mputok M ci k = true) (hp : pc + 3 = pc') : Runs xs sl d M pc L (v :: .ref a :: st) H r ↔ ∃ H1, hOw H a ci k v = some H1 ∧ Runs xs sl d M pc' L st H1 r := run_putf hi (ho ▸ hf) ht hm hp
theorem q_new {o idx ci n : Nat} (hi : mop M pc = some (.new idx)) (ho : mown M = o) (hf : mNewc o idx = some ci) (hn : (mfC ci).2.2 = n) (hp : pc + 3 = pc') : Runs xs sl d M pc L st H r ↔ Runs xs sl d M pc' L (.ref H.2.1 :: st) (mnew H (mO ci (fun k => mdef (mTy ci k))) n) r := by
  subst hp
  subst hn
  exact run_step hi (by show mnewo M idx pc L st H = _; simp only [mnewo, ho, hf])
theorem q_newa_int {n : Int32} (hi : mop M pc = some (.newarray .int)) (hp : pc + 2 = pc') (h : ¬ (n < 0 ∨ 100000 < n.toNatClampNeg)) : Runs xs sl d M pc L (.int n :: st) H r ↔ Runs xs sl d M pc' L (.ref H.2.1 :: st) (mnew H (mI 0 n.toNatClampNeg (fun _ => 0)) n.toNatClampNeg) r := by
  subst hp
  exact run_step hi (if_neg h)
theorem q_newa_byte {n : Int32} (hi : mop M pc = some (.newarray .byte)) (hp : pc + 2 = pc') (h : ¬ (n < 0 ∨ 100000 < n.toNatClampNeg)) : Runs xs sl d M pc L (.int n :: st) H r ↔ Runs xs sl d M pc' L (.ref H.2.1 :: st) (mnew H (mI 1 n.toNatClampNeg (fun _ => 0)) n.toNatClampNeg) r := by
  subst hp
  exact run_step hi (if_neg h)
theorem q_newa_boolean {n : Int32} (hi : mop M pc = some (.newarray .boolean)) (hp : pc + 2 = pc') (h : ¬ (n < 0 ∨ 100000 < n.toNatClampNeg)) : Runs xs sl d M pc L (.int n :: st) H r ↔ Runs xs sl d M pc' L (.ref H.2.1 :: st) (mnew H (mI 2 n.toNatClampNeg (fun _ => 0)) n.toNatClampNeg) r := by
  subst hp
  exact run_step hi (if_neg h)
theorem q_newa_long {n : Int32} (hi : mop M pc = some (.newarray .long)) (hp : pc + 2 = pc') (h : ¬ (n < 0 ∨ 100000 < n.toNatClampNeg)) : Runs xs sl d M pc L (.int n :: st) H r ↔ Runs xs sl d M pc' L (.ref H.2.1 :: st) (mnew H (mJ 3 n.toNatClampNeg (fun _ => 0)) n.toNatClampNeg) r := by
  subst hp
  exact run_step hi (if_neg h)
theorem q_anewa {o idx ci t : Nat} {n : Int32} (hi : mop M pc = some (.anewarray idx)) (ho : mown M = o) (hf : mNewc o idx = some ci) (ht : mArr ci = some t) (hp : pc + 3 = pc') (h : ¬ (n < 0 ∨ 100000 < n.toNatClampNeg)) : Runs xs sl d M pc L (.int n :: st) H r ↔ Runs xs sl d M pc' L (.ref H.2.1 :: st) (mnew H (mQ t n.toNatClampNeg (fun _ => none)) n.toNatClampNeg) r := by
  subst hp
  exact run_step hi (by show manew M pc idx L (.int n :: st) H = _; simp only [manew, if_neg h, ho, hf, ht])
theorem q_copy {o idx a b M0 n0 : Nat} {n dp sp : Int32} (hi : mop M pc = some (.invokestatic idx)) (ho : mown M = o) (hv : mInv o idx = some (3, M0, n0)) (hcat : mcat st ≤ 8) (hp : pc + 3 = pc') : Runs xs sl (d + 1) M pc L (.int n :: .int dp :: .ref b :: .int sp :: .ref a :: st) H r ↔ ∃ H1, hCp H a b sp dp n = some H1 ∧ Runs xs sl (d + 1) M pc' L st H1 r := run_copy hi (ho ▸ hv) hcat hp
theorem q_mmax {o idx M0 n0 : Nat} {x y : Int32} (hi : mop M pc = some (.invokestatic idx)) (ho : mown M = o) (hv : mInv o idx = some (4, M0, n0)) (hcat : mcat st ≤ 8) (hp : pc + 3 = pc') : Runs xs sl (d + 1) M pc L (.int y :: .int x :: st) H r ↔ Runs xs sl (d + 1) M pc' L (.int (if x < y then y else x) :: st) H r := run_math (top := [.int y, .int x]) hi (ho ▸ hv) (by decide) (by show mmath 4 (d + 1) pc L (.int y :: .int x :: st) H = _; simp only [mmath]; rw [if_neg (by omega)]) hp
theorem q_mmin {o idx M0 n0 : Nat} {x y : Int32} (hi : mop M pc = some (.invokestatic idx)) (ho : mown M = o) (hv : mInv o idx = some (5, M0, n0)) (hcat : mcat st ≤ 8) (hp : pc + 3 = pc') : Runs xs sl (d + 1) M pc L (.int y :: .int x :: st) H r ↔ Runs xs sl (d + 1) M pc' L (.int (if y < x then y else x) :: st) H r := run_math (top := [.int y, .int x]) hi (ho ▸ hv) (by decide) (by show mmath 5 (d + 1) pc L (.int y :: .int x :: st) H = _; simp only [mmath]; rw [if_neg (by omega)]) hp
theorem q_mabs {o idx M0 n0 : Nat} {x : Int32} (hi : mop M pc = some (.invokestatic idx)) (ho : mown M = o) (hv : mInv o idx = some (6, M0, n0)) (hcat : mcat st ≤ 8) (hp : pc + 3 = pc') : Runs xs sl (d + 1) M pc L (.int x :: st) H r ↔ Runs xs sl (d + 1) M pc' L (.int (if 0 ≤ x then x else 0 - x) :: st) H r := run_math (top := [.int x]) hi (ho ▸ hv) (by decide) (by show mmath 6 (d + 1) pc L (.int x :: st) H = _; simp only [mmath]; rw [if_neg (by omega)]) hp
theorem q_callV {o idx M' n ci a mx : Nat} {as rest : List Value} {Lc : mL} (hi : mop M pc = some (.invokevirtual idx)) (ho : mown M = o) (hv : mInv o idx = some (0, M', n)) (hcl : mcls M' = some ci) (hx : mmax M' = mx) (hpop : mpop (n + 1) st = some (.ref a :: as, rest)) (hcat : mcat rest ≤ 8) (hlay : (mlay (.ref a :: as)).length ≤ mx) (hp : pc + 3 = pc') (he : mpad mx (mlay (.ref a :: as)) = Lc) (hc : hC H a = some ci) : Runs xs sl (d + 1) M pc L st H r ↔ ∃ v H1, Runs xs sl d M' 0 Lc [] H (v, H1) ∧ Runs xs sl (d + 1) M pc' L (v.toList ++ rest) H1 r := run_callV hi (ho ▸ hv) hcl hpop hcat (hx ▸ hlay) hp (by rw [ment, hx]; exact he) hc
theorem q_callS {o idx M' n mx : Nat} {as rest : List Value} {Lc : mL} (hi : mop M pc = some (.invokestatic idx)) (ho : mown M = o) (hv : mInv o idx = some (1, M', n)) (hx : mmax M' = mx) (hpop : mpop n st = some (as, rest)) (hcat : mcat rest ≤ 8) (hlay : (mlay as).length ≤ mx) (hp : pc + 3 = pc') (he : mpad mx (mlay as) = Lc) : Runs xs sl (d + 1) M pc L st H r ↔ ∃ v H1, Runs xs sl d M' 0 Lc [] H (v, H1) ∧ Runs xs sl (d + 1) M pc' L (v.toList ++ rest) H1 r := run_callS hi (ho ▸ hv) hpop hcat (hx ▸ hlay) hp (by rw [ment, hx]; exact he)
theorem q_callI {o idx M' n a mx : Nat} {as rest : List Value} {Lc : mL} (hi : mop M pc = some (.invokespecial idx)) (ho : mown M = o) (hv : mInv o idx = some (2, M', n)) (hx : mmax M' = mx) (hpop : mpop (n + 1) st = some (.ref a :: as, rest)) (hcat : mcat rest ≤ 8) (hlay : (mlay (.ref a :: as)).length ≤ mx) (hp : pc + 3 = pc') (he : mpad mx (mlay (.ref a :: as)) = Lc) : Runs xs sl (d + 1) M pc L st H r ↔ ∃ v H1, Runs xs sl d M' 0 Lc [] H (v, H1) ∧ Runs xs sl (d + 1) M pc' L (v.toList ++ rest) H1 r := run_callI hi (ho ▸ hv) hpop hcat (hx ▸ hlay) hp (by rw [ment, hx]; exact he)
theorem q_iret {x : Int32} (hi : mop M pc = some .ireturn) (ht : mret M = some .int) : Runs xs sl d M pc L [.int x] H r ↔ r = (some (.int x), H) := run_ret hi (by show mretv M [.int x] = _; simp only [mretv, ht])
theorem q_zret {x : Int32} (hi : mop M pc = some .ireturn) (ht : mret M = some .boolean) (h : x = 0 ∨ x = 1) : Runs xs sl d M pc L [.int x] H r ↔ r = (some (.int x), H) := run_ret hi (by show mretv M [.int x] = _; simp only [mretv, ht, if_pos h])
theorem q_lret {x : Int64} (hi : mop M pc = some .lreturn) (ht : mret M = some .long) : Runs xs sl d M pc L [.long x] H r ↔ r = (some (.long x), H) := run_ret hi (by show mretl M [.long x] = _; simp only [mretl, ht])
theorem q_aret {C : String} {a : Nat} (hi : mop M pc = some .areturn) (ht : mret M = some (.object C)) : Runs xs sl d M pc L [.ref a] H r ↔ r = (some (.ref a), H) := run_ret hi (by show mreta M [.ref a] = _; simp only [mreta, ht])
theorem q_aretR {C : String} {a : Nat} (hi : mop M pc = some .areturn) (ht : mret M = some (.object C)) : Runs xs sl d M pc L [.retAddr a] H r ↔ r = (some (.retAddr a), H) := run_ret hi (by show mreta M [.retAddr a] = _; simp only [mreta, ht])
theorem q_aretN {C : String} (hi : mop M pc = some .areturn) (ht : mret M = some (.object C)) : Runs xs sl d M pc L [.null] H r ↔ r = (some .null, H) := run_ret hi (by show mreta M [.null] = _; simp only [mreta, ht])
theorem q_ret (hi : mop M pc = some .return_) (ht : mret M = none) : Runs xs sl d M pc L [] H r ↔ r = (none, H) := run_ret hi (by show mretn M [] = _; simp only [mretn, ht])
theorem q_sld {i : Int32} (hi : mop 0 pc = some .iaload) (hp : pc + 1 = pc') (h : ¬ (i < 0 ∨ sl ≤ i.toNatClampNeg)) : Runs xs sl d 0 pc L (.int i :: .retAddr 99 :: st) H r ↔ Runs xs sl d 0 pc' L (.int (xs i.toNatClampNeg) :: st) H r := by
  subst hp
  refine run_step hi ?_
  show mialdx xs sl 0 pc L (.int i :: .retAddr 99 :: st) H = _
  unfold mialdx
  exact if_neg (fun z => z.elim (fun q => q rfl) h)
theorem q_slen (hi : mop 0 pc = some .arraylength) (hp : pc + 1 = pc') : Runs xs sl d 0 pc L (.retAddr 99 :: st) H r ↔ Runs xs sl d 0 pc' L (.int (Int32.ofNat sl) :: st) H r := by
  subst hp
  exact run_step hi rfl
end FAST
