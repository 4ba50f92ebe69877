/-! SOUNDNESS: the whole small machine -/
section MSOUND
variable {p : Program} {l : Launch} {e : Env} {R : Room} {s : State} {m : MethodId} {args : Array Value} {below : List Frame} {meth : Method} {c : Code} {Q : State → Prop} {base : Nat} {sa : Nat → Nat} {D : va_G} {cA : Nat → ClassId} {xs : Nat → Int32} {sl d M cells slots pc : Nat} {L L' : mL} {st st' : List Value} {H H' : mH} {pc' : Nat}
theorem mstep_mono {i : Instr} (h : mstep xs sl d M i pc L st H = some (.inl (pc', L', st', H'))) : H.2.1 ≤ H'.2.1 ∧ H.2.2 ≤ H'.2.2 := by
  cases i with
  | ireturn => exact absurd (Or.inl h) mret_no
  | lreturn => exact absurd (Or.inr (Or.inl h)) mret_no
  | areturn => exact absurd (Or.inr (Or.inr (Or.inl h))) mret_no
  | return_ => exact absurd (Or.inr (Or.inr (Or.inr h))) mret_no
  | iconst k =>
    have h : nx (pc + 1) L (.int (Int32.ofInt k) :: st) H = some (.inl (pc', L', st', H')) := h
    cases h
    exact ⟨Nat.le_refl _, Nat.le_refl _⟩
  | bipush k =>
    have h : nx (pc + 2) L (.int (Int8.ofInt k).toInt32 :: st) H = some (.inl (pc', L', st', H')) := h
    cases h
    exact ⟨Nat.le_refl _, Nat.le_refl _⟩
  | sipush k =>
    have h : nx (pc + 3) L (.int (Int16.ofInt k).toInt32 :: st) H = some (.inl (pc', L', st', H')) := h
    cases h
    exact ⟨Nat.le_refl _, Nat.le_refl _⟩
  | lconst k =>
    have h : nx (pc + 1) L (.long (Int64.ofNat k) :: st) H = some (.inl (pc', L', st', H')) := h
    cases h
    exact ⟨Nat.le_refl _, Nat.le_refl _⟩
  | aconst_null =>
    have h : nx (pc + 1) L (.null :: st) H = some (.inl (pc', L', st', H')) := h
    cases h
    exact ⟨Nat.le_refl _, Nat.le_refl _⟩
  | iload_n k =>
    have h : mldi L k (pc + 1) st H = some (.inl (pc', L', st', H')) := h
    simp only [mldi, nx] at h
    repeat' split at h
    all_goals first | (cases h; done) | (cases h; exact ⟨Nat.le_refl _, Nat.le_refl _⟩) | (cases h; exact ⟨Nat.le_succ _, Nat.le_add_right _ _⟩)
  | iload k =>
    have h : mldi L k (pc + 2) st H = some (.inl (pc', L', st', H')) := h
    simp only [mldi, nx] at h
    repeat' split at h
    all_goals first | (cases h; done) | (cases h; exact ⟨Nat.le_refl _, Nat.le_refl _⟩) | (cases h; exact ⟨Nat.le_succ _, Nat.le_add_right _ _⟩)
  | lload_n k =>
    have h : mldl L k (pc + 1) st H = some (.inl (pc', L', st', H')) := h
    simp only [mldl, nx] at h
    repeat' split at h
    all_goals first | (cases h; done) | (cases h; exact ⟨Nat.le_refl _, Nat.le_refl _⟩) | (cases h; exact ⟨Nat.le_succ _, Nat.le_add_right _ _⟩)
  | lload k =>
    have h : mldl L k (pc + 2) st H = some (.inl (pc', L', st', H')) := h
    simp only [mldl, nx] at h
    repeat' split at h
    all_goals first | (cases h; done) | (cases h; exact ⟨Nat.le_refl _, Nat.le_refl _⟩) | (cases h; exact ⟨Nat.le_succ _, Nat.le_add_right _ _⟩)
  | aload_n k =>
    have h : mlda L k (pc + 1) st H = some (.inl (pc', L', st', H')) := h
    simp only [mlda, nx] at h
    repeat' split at h
    all_goals first | (cases h; done) | (cases h; exact ⟨Nat.le_refl _, Nat.le_refl _⟩) | (cases h; exact ⟨Nat.le_succ _, Nat.le_add_right _ _⟩)
  | aload k =>
    have h : mlda L k (pc + 2) st H = some (.inl (pc', L', st', H')) := h
    simp only [mlda, nx] at h
    repeat' split at h
    all_goals first | (cases h; done) | (cases h; exact ⟨Nat.le_refl _, Nat.le_refl _⟩) | (cases h; exact ⟨Nat.le_succ _, Nat.le_add_right _ _⟩)
  | istore_n k =>
    have h : msti L k (pc + 1) st H = some (.inl (pc', L', st', H')) := h
    simp only [msti, nx] at h
    repeat' split at h
    all_goals first | (cases h; done) | (cases h; exact ⟨Nat.le_refl _, Nat.le_refl _⟩) | (cases h; exact ⟨Nat.le_succ _, Nat.le_add_right _ _⟩)
  | istore k =>
    have h : msti L k (pc + 2) st H = some (.inl (pc', L', st', H')) := h
    simp only [msti, nx] at h
    repeat' split at h
    all_goals first | (cases h; done) | (cases h; exact ⟨Nat.le_refl _, Nat.le_refl _⟩) | (cases h; exact ⟨Nat.le_succ _, Nat.le_add_right _ _⟩)
  | lstore_n k =>
    have h : mstl L k (pc + 1) st H = some (.inl (pc', L', st', H')) := h
    simp only [mstl, nx] at h
    repeat' split at h
    all_goals first | (cases h; done) | (cases h; exact ⟨Nat.le_refl _, Nat.le_refl _⟩) | (cases h; exact ⟨Nat.le_succ _, Nat.le_add_right _ _⟩)
  | lstore k =>
    have h : mstl L k (pc + 2) st H = some (.inl (pc', L', st', H')) := h
    simp only [mstl, nx] at h
    repeat' split at h
    all_goals first | (cases h; done) | (cases h; exact ⟨Nat.le_refl _, Nat.le_refl _⟩) | (cases h; exact ⟨Nat.le_succ _, Nat.le_add_right _ _⟩)
  | astore_n k =>
    have h : msta L k (pc + 1) st H = some (.inl (pc', L', st', H')) := h
    simp only [msta, nx] at h
    repeat' split at h
    all_goals first | (cases h; done) | (cases h; exact ⟨Nat.le_refl _, Nat.le_refl _⟩) | (cases h; exact ⟨Nat.le_succ _, Nat.le_add_right _ _⟩)
  | astore k =>
    have h : msta L k (pc + 2) st H = some (.inl (pc', L', st', H')) := h
    simp only [msta, nx] at h
    repeat' split at h
    all_goals first | (cases h; done) | (cases h; exact ⟨Nat.le_refl _, Nat.le_refl _⟩) | (cases h; exact ⟨Nat.le_succ _, Nat.le_add_right _ _⟩)
  | iinc k n =>
    have h : mincr L k n pc st H = some (.inl (pc', L', st', H')) := h
    simp only [mincr, nx] at h
    repeat' split at h
    all_goals first | (cases h; done) | (cases h; exact ⟨Nat.le_refl _, Nat.le_refl _⟩) | (cases h; exact ⟨Nat.le_succ _, Nat.le_add_right _ _⟩)
  | ldc k =>
    have h : mldcs M k (pc + 2) L st H = some (.inl (pc', L', st', H')) := h
    simp only [mldcs, nx] at h
    repeat' split at h
    all_goals first | (cases h; done) | (cases h; exact ⟨Nat.le_refl _, Nat.le_refl _⟩) | (cases h; exact ⟨Nat.le_succ _, Nat.le_add_right _ _⟩)
  | ldc_w k =>
    have h : mldc M k (pc + 3) L st H = some (.inl (pc', L', st', H')) := h
    simp only [mldc, nx] at h
    repeat' split at h
    all_goals first | (cases h; done) | (cases h; exact ⟨Nat.le_refl _, Nat.le_refl _⟩) | (cases h; exact ⟨Nat.le_succ _, Nat.le_add_right _ _⟩)
  | ldc2_w k =>
    have h : mldc2 M k (pc + 3) L st H = some (.inl (pc', L', st', H')) := h
    simp only [mldc2, nx] at h
    repeat' split at h
    all_goals first | (cases h; done) | (cases h; exact ⟨Nat.le_refl _, Nat.le_refl _⟩) | (cases h; exact ⟨Nat.le_succ _, Nat.le_add_right _ _⟩)
  | iadd =>
    have h : mii pc L st H (fun x y => x + y) = some (.inl (pc', L', st', H')) := h
    simp only [mii, nx] at h
    repeat' split at h
    all_goals first | (cases h; done) | (cases h; exact ⟨Nat.le_refl _, Nat.le_refl _⟩) | (cases h; exact ⟨Nat.le_succ _, Nat.le_add_right _ _⟩)
  | isub =>
    have h : mii pc L st H (fun x y => x - y) = some (.inl (pc', L', st', H')) := h
    simp only [mii, nx] at h
    repeat' split at h
    all_goals first | (cases h; done) | (cases h; exact ⟨Nat.le_refl _, Nat.le_refl _⟩) | (cases h; exact ⟨Nat.le_succ _, Nat.le_add_right _ _⟩)
  | imul =>
    have h : mii pc L st H (fun x y => x * y) = some (.inl (pc', L', st', H')) := h
    simp only [mii, nx] at h
    repeat' split at h
    all_goals first | (cases h; done) | (cases h; exact ⟨Nat.le_refl _, Nat.le_refl _⟩) | (cases h; exact ⟨Nat.le_succ _, Nat.le_add_right _ _⟩)
  | iand =>
    have h : mii pc L st H (fun x y => x &&& y) = some (.inl (pc', L', st', H')) := h
    simp only [mii, nx] at h
    repeat' split at h
    all_goals first | (cases h; done) | (cases h; exact ⟨Nat.le_refl _, Nat.le_refl _⟩) | (cases h; exact ⟨Nat.le_succ _, Nat.le_add_right _ _⟩)
  | ior =>
    have h : mii pc L st H (fun x y => x ||| y) = some (.inl (pc', L', st', H')) := h
    simp only [mii, nx] at h
    repeat' split at h
    all_goals first | (cases h; done) | (cases h; exact ⟨Nat.le_refl _, Nat.le_refl _⟩) | (cases h; exact ⟨Nat.le_succ _, Nat.le_add_right _ _⟩)
  | ixor =>
    have h : mii pc L st H (fun x y => x ^^^ y) = some (.inl (pc', L', st', H')) := h
    simp only [mii, nx] at h
    repeat' split at h
    all_goals first | (cases h; done) | (cases h; exact ⟨Nat.le_refl _, Nat.le_refl _⟩) | (cases h; exact ⟨Nat.le_succ _, Nat.le_add_right _ _⟩)
  | ishl =>
    have h : mii pc L st H (fun x y => x <<< (y &&& 31)) = some (.inl (pc', L', st', H')) := h
    simp only [mii, nx] at h
    repeat' split at h
    all_goals first | (cases h; done) | (cases h; exact ⟨Nat.le_refl _, Nat.le_refl _⟩) | (cases h; exact ⟨Nat.le_succ _, Nat.le_add_right _ _⟩)
  | ishr =>
    have h : mii pc L st H (fun x y => x >>> (y &&& 31)) = some (.inl (pc', L', st', H')) := h
    simp only [mii, nx] at h
    repeat' split at h
    all_goals first | (cases h; done) | (cases h; exact ⟨Nat.le_refl _, Nat.le_refl _⟩) | (cases h; exact ⟨Nat.le_succ _, Nat.le_add_right _ _⟩)
  | iushr =>
    have h : mii pc L st H (fun x y => (x.toUInt32 >>> (y.toUInt32 &&& Int32.toUInt32 31)).toInt32) = some (.inl (pc', L', st', H')) := h
    simp only [mii, nx] at h
    repeat' split at h
    all_goals first | (cases h; done) | (cases h; exact ⟨Nat.le_refl _, Nat.le_refl _⟩) | (cases h; exact ⟨Nat.le_succ _, Nat.le_add_right _ _⟩)
  | ladd =>
    have h : mll pc L st H (fun x y => x + y) = some (.inl (pc', L', st', H')) := h
    simp only [mll, nx] at h
    repeat' split at h
    all_goals first | (cases h; done) | (cases h; exact ⟨Nat.le_refl _, Nat.le_refl _⟩) | (cases h; exact ⟨Nat.le_succ _, Nat.le_add_right _ _⟩)
  | lsub =>
    have h : mll pc L st H (fun x y => x - y) = some (.inl (pc', L', st', H')) := h
    simp only [mll, nx] at h
    repeat' split at h
    all_goals first | (cases h; done) | (cases h; exact ⟨Nat.le_refl _, Nat.le_refl _⟩) | (cases h; exact ⟨Nat.le_succ _, Nat.le_add_right _ _⟩)
  | lmul =>
    have h : mll pc L st H (fun x y => x * y) = some (.inl (pc', L', st', H')) := h
    simp only [mll, nx] at h
    repeat' split at h
    all_goals first | (cases h; done) | (cases h; exact ⟨Nat.le_refl _, Nat.le_refl _⟩) | (cases h; exact ⟨Nat.le_succ _, Nat.le_add_right _ _⟩)
  | idiv =>
    have h : mdivi pc L st H (fun x y => x / y) = some (.inl (pc', L', st', H')) := h
    simp only [mdivi, nx] at h
    repeat' split at h
    all_goals first | (cases h; done) | (cases h; exact ⟨Nat.le_refl _, Nat.le_refl _⟩) | (cases h; exact ⟨Nat.le_succ _, Nat.le_add_right _ _⟩)
  | irem =>
    have h : mdivi pc L st H (fun x y => x - x / y * y) = some (.inl (pc', L', st', H')) := h
    simp only [mdivi, nx] at h
    repeat' split at h
    all_goals first | (cases h; done) | (cases h; exact ⟨Nat.le_refl _, Nat.le_refl _⟩) | (cases h; exact ⟨Nat.le_succ _, Nat.le_add_right _ _⟩)
  | ldiv =>
    have h : mdivl pc L st H (fun x y => x / y) = some (.inl (pc', L', st', H')) := h
    simp only [mdivl, nx] at h
    repeat' split at h
    all_goals first | (cases h; done) | (cases h; exact ⟨Nat.le_refl _, Nat.le_refl _⟩) | (cases h; exact ⟨Nat.le_succ _, Nat.le_add_right _ _⟩)
  | lrem =>
    have h : mdivl pc L st H (fun x y => x - x / y * y) = some (.inl (pc', L', st', H')) := h
    simp only [mdivl, nx] at h
    repeat' split at h
    all_goals first | (cases h; done) | (cases h; exact ⟨Nat.le_refl _, Nat.le_refl _⟩) | (cases h; exact ⟨Nat.le_succ _, Nat.le_add_right _ _⟩)
  | ineg =>
    have h : mun pc L st H (fun x => .int (-x)) = some (.inl (pc', L', st', H')) := h
    simp only [mun, nx] at h
    repeat' split at h
    all_goals first | (cases h; done) | (cases h; exact ⟨Nat.le_refl _, Nat.le_refl _⟩) | (cases h; exact ⟨Nat.le_succ _, Nat.le_add_right _ _⟩)
  | i2l =>
    have h : mun pc L st H (fun x => .long x.toInt64) = some (.inl (pc', L', st', H')) := h
    simp only [mun, nx] at h
    repeat' split at h
    all_goals first | (cases h; done) | (cases h; exact ⟨Nat.le_refl _, Nat.le_refl _⟩) | (cases h; exact ⟨Nat.le_succ _, Nat.le_add_right _ _⟩)
  | i2b =>
    have h : mun pc L st H (fun x => .int x.toInt8.toInt32) = some (.inl (pc', L', st', H')) := h
    simp only [mun, nx] at h
    repeat' split at h
    all_goals first | (cases h; done) | (cases h; exact ⟨Nat.le_refl _, Nat.le_refl _⟩) | (cases h; exact ⟨Nat.le_succ _, Nat.le_add_right _ _⟩)
  | lcmp =>
    have h : mlcmp pc L st H = some (.inl (pc', L', st', H')) := h
    simp only [mlcmp, nx] at h
    repeat' split at h
    all_goals first | (cases h; done) | (cases h; exact ⟨Nat.le_refl _, Nat.le_refl _⟩) | (cases h; exact ⟨Nat.le_succ _, Nat.le_add_right _ _⟩)
  | dup =>
    have h : mdup pc L st H = some (.inl (pc', L', st', H')) := h
    simp only [mdup, nx] at h
    repeat' split at h
    all_goals first | (cases h; done) | (cases h; exact ⟨Nat.le_refl _, Nat.le_refl _⟩) | (cases h; exact ⟨Nat.le_succ _, Nat.le_add_right _ _⟩)
  | pop =>
    have h : mpop1 pc L st H = some (.inl (pc', L', st', H')) := h
    simp only [mpop1, nx] at h
    repeat' split at h
    all_goals first | (cases h; done) | (cases h; exact ⟨Nat.le_refl _, Nat.le_refl _⟩) | (cases h; exact ⟨Nat.le_succ _, Nat.le_add_right _ _⟩)
  | dup2 =>
    have h : mdup2 pc L st H = some (.inl (pc', L', st', H')) := h
    simp only [mdup2, nx] at h
    repeat' split at h
    all_goals first | (cases h; done) | (cases h; exact ⟨Nat.le_refl _, Nat.le_refl _⟩) | (cases h; exact ⟨Nat.le_succ _, Nat.le_add_right _ _⟩)
  | if_icmp k off =>
    have h : micmp k off pc L st H = some (.inl (pc', L', st', H')) := h
    simp only [micmp, mbr, nx] at h
    repeat' split at h
    all_goals first | (cases h; done) | (cases h; exact ⟨Nat.le_refl _, Nat.le_refl _⟩) | (cases h; exact ⟨Nat.le_succ _, Nat.le_add_right _ _⟩)
  | ifCond k off =>
    have h : mif0 k off pc L st H = some (.inl (pc', L', st', H')) := h
    simp only [mif0, mbr, nx] at h
    repeat' split at h
    all_goals first | (cases h; done) | (cases h; exact ⟨Nat.le_refl _, Nat.le_refl _⟩) | (cases h; exact ⟨Nat.le_succ _, Nat.le_add_right _ _⟩)
  | ifnull off =>
    have h : mifn off pc L st H = some (.inl (pc', L', st', H')) := h
    simp only [mifn, mgo, nx] at h
    repeat' split at h
    all_goals first | (cases h; done) | (cases h; exact ⟨Nat.le_refl _, Nat.le_refl _⟩) | (cases h; exact ⟨Nat.le_succ _, Nat.le_add_right _ _⟩)
  | ifnonnull off =>
    have h : mifnn off pc L st H = some (.inl (pc', L', st', H')) := h
    simp only [mifnn, mgo, nx] at h
    repeat' split at h
    all_goals first | (cases h; done) | (cases h; exact ⟨Nat.le_refl _, Nat.le_refl _⟩) | (cases h; exact ⟨Nat.le_succ _, Nat.le_add_right _ _⟩)
  | goto off =>
    have h : mgo pc off L st H = some (.inl (pc', L', st', H')) := h
    simp only [mgo, nx] at h
    repeat' split at h
    all_goals first | (cases h; done) | (cases h; exact ⟨Nat.le_refl _, Nat.le_refl _⟩) | (cases h; exact ⟨Nat.le_succ _, Nat.le_add_right _ _⟩)
  | tableswitch a b c2 d2 =>
    have h : mtsw a b c2 d2 pc L st H = some (.inl (pc', L', st', H')) := h
    simp only [mtsw, mgo, nx] at h
    repeat' split at h
    all_goals first | (cases h; done) | (cases h; exact ⟨Nat.le_refl _, Nat.le_refl _⟩) | (cases h; exact ⟨Nat.le_succ _, Nat.le_add_right _ _⟩)
  | lookupswitch a b =>
    have h : mlsw a b pc L st H = some (.inl (pc', L', st', H')) := h
    simp only [mlsw, mgo, nx] at h
    repeat' split at h
    all_goals first | (cases h; done) | (cases h; exact ⟨Nat.le_refl _, Nat.le_refl _⟩) | (cases h; exact ⟨Nat.le_succ _, Nat.le_add_right _ _⟩)
  | getfield k =>
    have h : mgetf M pc k L st H = some (.inl (pc', L', st', H')) := h
    simp only [mgetf, nx] at h
    repeat' split at h
    all_goals first | (cases h; done) | (cases h; exact ⟨Nat.le_refl _, Nat.le_refl _⟩) | (cases h; exact ⟨Nat.le_succ _, Nat.le_add_right _ _⟩)
  | putfield k =>
    have h : mputf M pc k L st H = some (.inl (pc', L', st', H')) := h
    simp only [mputf, nx] at h
    repeat' split at h
    all_goals first | (cases h; done) | (cases h; exact ⟨Nat.le_refl _, Nat.le_refl _⟩) | (cases h; exact ⟨Nat.le_succ _, Nat.le_add_right _ _⟩)
  | iaload =>
    have h : mialdx xs sl M pc L st H = some (.inl (pc', L', st', H')) := h
    simp only [mialdx, mald, nx] at h
    repeat' split at h
    all_goals first | (cases h; done) | (cases h; exact ⟨Nat.le_refl _, Nat.le_refl _⟩) | (cases h; exact ⟨Nat.le_succ _, Nat.le_add_right _ _⟩)
  | baload =>
    have h : mbald pc L st H = some (.inl (pc', L', st', H')) := h
    simp only [mbald, nx] at h
    repeat' split at h
    all_goals first | (cases h; done) | (cases h; exact ⟨Nat.le_refl _, Nat.le_refl _⟩) | (cases h; exact ⟨Nat.le_succ _, Nat.le_add_right _ _⟩)
  | laload =>
    have h : mlald pc L st H = some (.inl (pc', L', st', H')) := h
    simp only [mlald, nx] at h
    repeat' split at h
    all_goals first | (cases h; done) | (cases h; exact ⟨Nat.le_refl _, Nat.le_refl _⟩) | (cases h; exact ⟨Nat.le_succ _, Nat.le_add_right _ _⟩)
  | aaload =>
    have h : maald pc L st H = some (.inl (pc', L', st', H')) := h
    simp only [maald, nx] at h
    repeat' split at h
    all_goals first | (cases h; done) | (cases h; exact ⟨Nat.le_refl _, Nat.le_refl _⟩) | (cases h; exact ⟨Nat.le_succ _, Nat.le_add_right _ _⟩)
  | iastore =>
    have h : miast pc L st H = some (.inl (pc', L', st', H')) := h
    simp only [miast, nx] at h
    repeat' split at h
    all_goals first | (cases h; done) | (cases h; exact ⟨Nat.le_refl _, Nat.le_refl _⟩) | (cases h; exact ⟨Nat.le_succ _, Nat.le_add_right _ _⟩)
  | bastore =>
    have h : mbast pc L st H = some (.inl (pc', L', st', H')) := h
    simp only [mbast, nx] at h
    repeat' split at h
    all_goals first | (cases h; done) | (cases h; exact ⟨Nat.le_refl _, Nat.le_refl _⟩) | (cases h; exact ⟨Nat.le_succ _, Nat.le_add_right _ _⟩)
  | lastore =>
    have h : mlast pc L st H = some (.inl (pc', L', st', H')) := h
    simp only [mlast, nx] at h
    repeat' split at h
    all_goals first | (cases h; done) | (cases h; exact ⟨Nat.le_refl _, Nat.le_refl _⟩) | (cases h; exact ⟨Nat.le_succ _, Nat.le_add_right _ _⟩)
  | aastore =>
    have h : maast pc L st H = some (.inl (pc', L', st', H')) := h
    simp only [maast, nx] at h
    repeat' split at h
    all_goals first | (cases h; done) | (cases h; exact ⟨Nat.le_refl _, Nat.le_refl _⟩) | (cases h; exact ⟨Nat.le_succ _, Nat.le_add_right _ _⟩)
  | arraylength =>
    have h : malen sl M pc L st H = some (.inl (pc', L', st', H')) := h
    simp only [malen, nx] at h
    repeat' split at h
    all_goals first | (cases h; done) | (cases h; exact ⟨Nat.le_refl _, Nat.le_refl _⟩) | (cases h; exact ⟨Nat.le_succ _, Nat.le_add_right _ _⟩)
  | new k =>
    have h : mnewo M k pc L st H = some (.inl (pc', L', st', H')) := h
    simp only [mnewo, nx] at h
    repeat' split at h
    all_goals first | (cases h; done) | (cases h; exact ⟨Nat.le_refl _, Nat.le_refl _⟩) | (cases h; exact ⟨Nat.le_succ _, Nat.le_add_right _ _⟩)
  | newarray k =>
    have h : mnewa k pc L st H = some (.inl (pc', L', st', H')) := h
    simp only [mnewa, nx] at h
    repeat' split at h
    all_goals first | (cases h; done) | (cases h; exact ⟨Nat.le_refl _, Nat.le_refl _⟩) | (cases h; exact ⟨Nat.le_succ _, Nat.le_add_right _ _⟩)
  | anewarray k =>
    have h : manew M pc k L st H = some (.inl (pc', L', st', H')) := h
    simp only [manew, nx] at h
    repeat' split at h
    all_goals first | (cases h; done) | (cases h; exact ⟨Nat.le_refl _, Nat.le_refl _⟩) | (cases h; exact ⟨Nat.le_succ _, Nat.le_add_right _ _⟩)
  | invokevirtual k =>
    have h : minv 0 d M pc k L st H = some (.inl (pc', L', st', H')) := h
    simp only [minv, mcopy, mmath, mstr, nx] at h
    repeat' split at h
    all_goals first | (cases h; done) | (cases h; exact ⟨Nat.le_refl _, Nat.le_refl _⟩) | (cases h; exact ⟨Nat.le_succ _, Nat.le_add_right _ _⟩)
  | invokestatic k =>
    have h : minv 1 d M pc k L st H = some (.inl (pc', L', st', H')) := h
    simp only [minv, mcopy, mmath, mstr, nx] at h
    repeat' split at h
    all_goals first | (cases h; done) | (cases h; exact ⟨Nat.le_refl _, Nat.le_refl _⟩) | (cases h; exact ⟨Nat.le_succ _, Nat.le_add_right _ _⟩)
  | invokespecial k =>
    have h : minv 2 d M pc k L st H = some (.inl (pc', L', st', H')) := h
    simp only [minv, mcopy, mmath, mstr, nx] at h
    repeat' split at h
    all_goals first | (cases h; done) | (cases h; exact ⟨Nat.le_refl _, Nat.le_refl _⟩) | (cases h; exact ⟨Nat.le_succ _, Nat.le_add_right _ _⟩)
  | _ => cases h
theorem go_mono : ∀ {n d M pc : Nat} {L : mL} {st : List Value} {H : mH} {r : Option Value} {H' : mH}, go xs sl n d M pc L st H = some (r, H') → H.2.1 ≤ H'.2.1 ∧ H.2.2 ≤ H'.2.2 := by
  intro n
  induction n with
  | zero => intro d M pc L st H r H' h; cases h
  | succ n ih =>
    intro d M pc L st H r H' h
    unfold go at h
    split at h
    · cases h
    · rename_i i hi
      split at h
      · cases h
      · rename_i pc1 L1 st1 H1 hs
        have m1 := mstep_mono hs
        have m2 := ih h
        omega
      · cases h
        exact ⟨Nat.le_refl _, Nat.le_refl _⟩
      · rename_i M1 as r1 hs
        split at h
        · cases h
        · rename_i d1
          split at h
          · cases h
          · rename_i v H1 h1
            have m1 := ih h1
            have m2 := ih h
            omega
/-- the contract out of the body -/
theorem mmet_of (l : Launch) {d' M' : Nat} {as : List Value} {v : Option Value} {H1 : mH} (g0 : 0 < M') (g1 : M' < 293) (hpl : plainName (mname M').cls = true) (hlay : (mlay as).length ≤ mmax M')
    (ih : ∀ (p : Program) (e : Env) (R : Room) (s : State) (m : MethodId) (args : Array Value) (below : List Frame) (meth : Method) (c : Code) (Q : State → Prop) (cells slots : Nat), mF p s m args meth c M' base sa D cA xs sl d' R → cells + (H1.2.1 - H.2.1) ≤ R.cells → slots + (H1.2.2 - H.2.2) ≤ R.slots → (∀ (pc1 : Nat) (L1 : mL) (st1 : List Value) (i1 : Instr), mop M' pc1 = some i1 → mstep xs sl d' M' i1 pc1 L1 st1 H1 = some (.inr (.inl v)) → mG p l e R s m args below meth c Q base sa D cA M' (cells + (H1.2.1 - H.2.1)) (slots + (H1.2.2 - H.2.2)) pc1 L1 st1 H1) → mG p l e R s m args below meth c Q base sa D cA M' cells slots 0 (ment M' as) [] H) :
    Met l (mname M') (mWS M') (mrm d' H H1) (mPc base sa D cA H as) (mQc base sa D cA v H1) (H1.2.1 - H.2.1) (H1.2.2 - H.2.2) (fun q => base ≤ q) := by
  refine Met.ofW (cc := mbytes M') (maxL := mmax M') (ret := mret M') hpl rfl ?_
  intro p e s m args below meth c s₁ B hml hv
  obtain ⟨rfl, hW, hK, hbs, hSt⟩ := hv
  have hts := atoms_spec (ws := mWS M') B.pre
  have hown : s.vm.findClass (mname M').cls = some m.cls := findClass_of_methodNamed B.named
  have hnm : meth.name = (mname M').name := (name_of_methodNamed B.named B.method).1
  have hlocks := B.notSynchronized
  have hr := B.returns
  have F : mF p s m (as.map (rv base sa)).toArray meth c M' base sa D cA xs sl d' (mrm d' H H1) := ⟨B.exec, B.bytes, hml, by rw [(mM_ok g0 g1).2]; exact hown, fun q => hnm.trans q, fun w hw => hts w (List.mem_cons_of_mem _ hw), hK, hbs, Nat.le_refl _, Nat.le_refl _, fun q => by omega, hSt⟩
  have hlen : (lg_sl (as.map (rv base sa))).length ≤ mmax M' := by rw [mlay_len]; exact hlay
  rw [lg_entry_eq]
  have key := ih p e (mrm d' H H1) s m (as.map (rv base sa)).toArray below meth c (MQ below (mQc base sa D cA v H1) (as.map (rv base sa)).toArray s (H1.2.1 - H.2.1) (H1.2.2 - H.2.2) (fun q => base ≤ q)) 0 0 F (by rw [Nat.zero_add]; exact Nat.le_refl _) (by rw [Nat.zero_add]; exact Nat.le_refl _) (fun pc1 L1 st1 i1 ho hs ls1 Hr1 locs1 hl1 hn1 hW1 hS1 => by
    rw [Nat.zero_add, Nat.zero_add]
    exact mret_snd F hr hlocks (mop_ok ho).1 hs hW1 hS1)
  exact key _ s.heap [] (ment_has (lv_entry (as.map (rv base sa)) hlen)) (ment_len hlay) hW va_S.rf
theorem msound (l : Launch) : ∀ (n d M pc : Nat) (L : mL) (st : List Value) (H : mH) (r : Option Value) (H' : mH), go xs sl n d M pc L st H = some (r, H') → ∀ (p : Program) (e : Env) (R : Room) (s : State) (m : MethodId) (args : Array Value) (below : List Frame) (meth : Method) (c : Code) (Q : State → Prop) (cells slots : Nat), mF p s m args meth c M base sa D cA xs sl d R → mcn (mown M) = (mname M).cls → cells + (H'.2.1 - H.2.1) ≤ R.cells → slots + (H'.2.2 - H.2.2) ≤ R.slots → (∀ (pc1 : Nat) (L1 : mL) (st1 : List Value) (i1 : Instr), mop M pc1 = some i1 → mstep xs sl d M i1 pc1 L1 st1 H' = some (.inr (.inl r)) → mG p l e R s m args below meth c Q base sa D cA M (cells + (H'.2.1 - H.2.1)) (slots + (H'.2.2 - H.2.2)) pc1 L1 st1 H') → mG p l e R s m args below meth c Q base sa D cA M cells slots pc L st H := by
  intro n
  induction n with
  | zero => intro d M pc L st H r H' h; cases h
  | succ n ih =>
    intro d M pc L st H r H' h p e R s m args below meth c Q cells slots F hM hcl hsl hend
    unfold go at h
    split at h
    · cases h
    · rename_i i hi
      have hdec := (mop_ok hi).1
      split at h
      · cases h
      · rename_i pc1 L1 st1 H1 hs
        have mo := go_mono h
        obtain ⟨m1, m2, k⟩ := mstep_snd (cells := cells) (slots := slots) (l := l) (e := e) (below := below) (Q := Q) F hM hdec (by omega) (by omega) hs
        have a1 : cells + (H1.2.1 - H.2.1) + (H'.2.1 - H1.2.1) = cells + (H'.2.1 - H.2.1) := by omega
        have a2 : slots + (H1.2.2 - H.2.2) + (H'.2.2 - H1.2.2) = slots + (H'.2.2 - H.2.2) := by omega
        refine k (by omega) (by omega) (ih d M pc1 L1 st1 H1 r H' h p e R s m args below meth c Q _ _ F hM (by omega) (by omega) ?_)
        rw [a1, a2]
        exact hend
      · rename_i v hs
        cases h
        have := hend pc L st i hi hs
        rw [Nat.sub_self, Nat.sub_self] at this
        exact this
      · rename_i M1 as r1 hs
        split at h
        · cases h
        · rename_i d1
          split at h
          · cases h
          · rename_i v H1 h1
            have mo1 := go_mono h1
            have mo2 := go_mono h
            have a1 : cells + (H1.2.1 - H.2.1) + (H'.2.1 - H1.2.1) = cells + (H'.2.1 - H.2.1) := by omega
            have a2 : slots + (H1.2.2 - H.2.2) + (H'.2.2 - H1.2.2) = slots + (H'.2.2 - H.2.2) := by omega
            have kk := ih (d1 + 1) M (pc + 3) L (v.toList ++ r1) H1 r H' h p e R s m args below meth c Q (cells + (H1.2.1 - H.2.1)) (slots + (H1.2.2 - H.2.2)) F hM (by omega) (by omega) (by rw [a1, a2]; exact hend)
            have met : 0 < M1 → M1 < 293 → M1 ≠ 292 → plainName (mname M1).cls = true → (mlay as).length ≤ mmax M1 → Met l (mname M1) (mWS M1) (mrm d1 H H1) (mPc base sa D cA H as) (mQc base sa D cA v H1) (H1.2.1 - H.2.1) (H1.2.2 - H.2.2) (fun q => base ≤ q) := fun g0 g1 _ g3 g4 =>
              mmet_of l g0 g1 g3 g4 (fun p e R s m args below meth c Q cells slots F1 hc1 hs1 he1 => ih d1 M1 0 (ment M1 as) [] H v H1 h1 p e R s m args below meth c Q cells slots F1 (mM_ok g0 g1).2 hc1 hs1 he1)
            rcases mcall_ins hs with ⟨k, rfl, hv⟩ | ⟨k, rfl, hv⟩ | ⟨k, rfl, hv⟩
            · exact mcall_snd F (by decide) ⟨fun _ => hdec, fun q => absurd q (by decide), fun q => absurd q (by decide)⟩ hv h1 met (by omega) (by omega) kk
            · exact mcall_snd F (by decide) ⟨fun q => absurd q (by decide), fun _ => hdec, fun q => absurd q (by decide)⟩ hv h1 met (by omega) (by omega) kk
            · exact mcall_snd F (by decide) ⟨fun q => absurd q (by decide), fun q => absurd q (by decide), fun _ => hdec⟩ hv h1 met (by omega) (by omega) kk
end MSOUND
