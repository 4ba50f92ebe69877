/-! SOUNDNESS: calls, returns, the whole machine -/
section MMAIN
variable {p : Program} {l : Launch} {e : Env} {R : Room} {s : State} {m : MethodId} {args : Array Value} {below : List Frame} {meth : Method} {c : Code} {Q : State → Prop} {base : Nat} {sa : Nat → Nat} {D : va_G} {cA : Nat → ClassId} {xs : Nat → Int32} {sl d M cells slots pc : Nat} {L L' : mL} {st st' : List Value} {H H' : mH} {pc' : Nat}
theorem mret_ins {i : Instr} {r : Option Value} (h : mstep xs sl d M i pc L st H = some (.inr (.inl r))) : i = .ireturn ∨ i = .lreturn ∨ i = .areturn ∨ i = .return_ := by
  cases i with
  | ireturn => exact Or.inl rfl
  | lreturn => exact Or.inr (Or.inl rfl)
  | areturn => exact Or.inr (Or.inr (Or.inl rfl))
  | return_ => exact Or.inr (Or.inr (Or.inr rfl))
  | iload_n k =>
    have h : mldi L k (pc + 1) st H = some (.inr (.inl r)) := h
    simp only [mldi, nx] at h
    repeat' split at h
    all_goals cases h
  | iload k =>
    have h : mldi L k (pc + 2) st H = some (.inr (.inl r)) := h
    simp only [mldi, nx] at h
    repeat' split at h
    all_goals cases h
  | lload_n k =>
    have h : mldl L k (pc + 1) st H = some (.inr (.inl r)) := h
    simp only [mldl, nx] at h
    repeat' split at h
    all_goals cases h
  | lload k =>
    have h : mldl L k (pc + 2) st H = some (.inr (.inl r)) := h
    simp only [mldl, nx] at h
    repeat' split at h
    all_goals cases h
  | aload_n k =>
    have h : mlda L k (pc + 1) st H = some (.inr (.inl r)) := h
    simp only [mlda, nx] at h
    repeat' split at h
    all_goals cases h
  | aload k =>
    have h : mlda L k (pc + 2) st H = some (.inr (.inl r)) := h
    simp only [mlda, nx] at h
    repeat' split at h
    all_goals cases h
  | istore_n k =>
    have h : msti L k (pc + 1) st H = some (.inr (.inl r)) := h
    simp only [msti, nx] at h
    repeat' split at h
    all_goals cases h
  | istore k =>
    have h : msti L k (pc + 2) st H = some (.inr (.inl r)) := h
    simp only [msti, nx] at h
    repeat' split at h
    all_goals cases h
  | lstore_n k =>
    have h : mstl L k (pc + 1) st H = some (.inr (.inl r)) := h
    simp only [mstl, nx] at h
    repeat' split at h
    all_goals cases h
  | lstore k =>
    have h : mstl L k (pc + 2) st H = some (.inr (.inl r)) := h
    simp only [mstl, nx] at h
    repeat' split at h
    all_goals cases h
  | astore_n k =>
    have h : msta L k (pc + 1) st H = some (.inr (.inl r)) := h
    simp only [msta, nx] at h
    repeat' split at h
    all_goals cases h
  | astore k =>
    have h : msta L k (pc + 2) st H = some (.inr (.inl r)) := h
    simp only [msta, nx] at h
    repeat' split at h
    all_goals cases h
  | iinc k n =>
    have h : mincr L k n pc st H = some (.inr (.inl r)) := h
    simp only [mincr, nx] at h
    repeat' split at h
    all_goals cases h
  | ldc k =>
    have h : mldcs M k (pc + 2) L st H = some (.inr (.inl r)) := h
    simp only [mldcs, nx] at h
    repeat' split at h
    all_goals cases h
  | ldc_w k =>
    have h : mldc M k (pc + 3) L st H = some (.inr (.inl r)) := h
    simp only [mldc, nx] at h
    repeat' split at h
    all_goals cases h
  | ldc2_w k =>
    have h : mldc2 M k (pc + 3) L st H = some (.inr (.inl r)) := h
    simp only [mldc2, nx] at h
    repeat' split at h
    all_goals cases h
  | iadd =>
    have h : mii pc L st H (fun x y => x + y) = some (.inr (.inl r)) := h
    simp only [mii, nx] at h
    repeat' split at h
    all_goals cases h
  | isub =>
    have h : mii pc L st H (fun x y => x - y) = some (.inr (.inl r)) := h
    simp only [mii, nx] at h
    repeat' split at h
    all_goals cases h
  | imul =>
    have h : mii pc L st H (fun x y => x * y) = some (.inr (.inl r)) := h
    simp only [mii, nx] at h
    repeat' split at h
    all_goals cases h
  | iand =>
    have h : mii pc L st H (fun x y => x &&& y) = some (.inr (.inl r)) := h
    simp only [mii, nx] at h
    repeat' split at h
    all_goals cases h
  | ior =>
    have h : mii pc L st H (fun x y => x ||| y) = some (.inr (.inl r)) := h
    simp only [mii, nx] at h
    repeat' split at h
    all_goals cases h
  | ixor =>
    have h : mii pc L st H (fun x y => x ^^^ y) = some (.inr (.inl r)) := h
    simp only [mii, nx] at h
    repeat' split at h
    all_goals cases h
  | ishl =>
    have h : mii pc L st H (fun x y => x <<< (y &&& 31)) = some (.inr (.inl r)) := h
    simp only [mii, nx] at h
    repeat' split at h
    all_goals cases h
  | ishr =>
    have h : mii pc L st H (fun x y => x >>> (y &&& 31)) = some (.inr (.inl r)) := h
    simp only [mii, nx] at h
    repeat' split at h
    all_goals cases h
  | iushr =>
    have h : mii pc L st H (fun x y => (x.toUInt32 >>> (y.toUInt32 &&& Int32.toUInt32 31)).toInt32) = some (.inr (.inl r)) := h
    simp only [mii, nx] at h
    repeat' split at h
    all_goals cases h
  | ladd =>
    have h : mll pc L st H (fun x y => x + y) = some (.inr (.inl r)) := h
    simp only [mll, nx] at h
    repeat' split at h
    all_goals cases h
  | lsub =>
    have h : mll pc L st H (fun x y => x - y) = some (.inr (.inl r)) := h
    simp only [mll, nx] at h
    repeat' split at h
    all_goals cases h
  | lmul =>
    have h : mll pc L st H (fun x y => x * y) = some (.inr (.inl r)) := h
    simp only [mll, nx] at h
    repeat' split at h
    all_goals cases h
  | idiv =>
    have h : mdivi pc L st H (fun x y => x / y) = some (.inr (.inl r)) := h
    simp only [mdivi, nx] at h
    repeat' split at h
    all_goals cases h
  | irem =>
    have h : mdivi pc L st H (fun x y => x - x / y * y) = some (.inr (.inl r)) := h
    simp only [mdivi, nx] at h
    repeat' split at h
    all_goals cases h
  | ldiv =>
    have h : mdivl pc L st H (fun x y => x / y) = some (.inr (.inl r)) := h
    simp only [mdivl, nx] at h
    repeat' split at h
    all_goals cases h
  | lrem =>
    have h : mdivl pc L st H (fun x y => x - x / y * y) = some (.inr (.inl r)) := h
    simp only [mdivl, nx] at h
    repeat' split at h
    all_goals cases h
  | ineg =>
    have h : mun pc L st H (fun x => .int (-x)) = some (.inr (.inl r)) := h
    simp only [mun, nx] at h
    repeat' split at h
    all_goals cases h
  | i2l =>
    have h : mun pc L st H (fun x => .long x.toInt64) = some (.inr (.inl r)) := h
    simp only [mun, nx] at h
    repeat' split at h
    all_goals cases h
  | i2b =>
    have h : mun pc L st H (fun x => .int x.toInt8.toInt32) = some (.inr (.inl r)) := h
    simp only [mun, nx] at h
    repeat' split at h
    all_goals cases h
  | lcmp =>
    have h : mlcmp pc L st H = some (.inr (.inl r)) := h
    simp only [mlcmp, nx] at h
    repeat' split at h
    all_goals cases h
  | dup =>
    have h : mdup pc L st H = some (.inr (.inl r)) := h
    simp only [mdup, nx] at h
    repeat' split at h
    all_goals cases h
  | pop =>
    have h : mpop1 pc L st H = some (.inr (.inl r)) := h
    simp only [mpop1, nx] at h
    repeat' split at h
    all_goals cases h
  | dup2 =>
    have h : mdup2 pc L st H = some (.inr (.inl r)) := h
    simp only [mdup2, nx] at h
    repeat' split at h
    all_goals cases h
  | if_icmp k off =>
    have h : micmp k off pc L st H = some (.inr (.inl r)) := h
    simp only [micmp, mbr, nx] at h
    repeat' split at h
    all_goals cases h
  | ifCond k off =>
    have h : mif0 k off pc L st H = some (.inr (.inl r)) := h
    simp only [mif0, mbr, nx] at h
    repeat' split at h
    all_goals cases h
  | ifnull off =>
    have h : mifn off pc L st H = some (.inr (.inl r)) := h
    simp only [mifn, mgo, nx] at h
    repeat' split at h
    all_goals cases h
  | ifnonnull off =>
    have h : mifnn off pc L st H = some (.inr (.inl r)) := h
    simp only [mifnn, mgo, nx] at h
    repeat' split at h
    all_goals cases h
  | goto off =>
    have h : mgo pc off L st H = some (.inr (.inl r)) := h
    simp only [mgo, nx] at h
    repeat' split at h
    all_goals cases h
  | tableswitch a b c2 d2 =>
    have h : mtsw a b c2 d2 pc L st H = some (.inr (.inl r)) := h
    simp only [mtsw, mgo, nx] at h
    repeat' split at h
    all_goals cases h
  | lookupswitch a b =>
    have h : mlsw a b pc L st H = some (.inr (.inl r)) := h
    simp only [mlsw, mgo, nx] at h
    repeat' split at h
    all_goals cases h
  | getfield k =>
    have h : mgetf M pc k L st H = some (.inr (.inl r)) := h
    simp only [mgetf, nx] at h
    repeat' split at h
    all_goals cases h
  | putfield k =>
    have h : mputf M pc k L st H = some (.inr (.inl r)) := h
    simp only [mputf, nx] at h
    repeat' split at h
    all_goals cases h
  | iaload =>
    have h : mialdx xs sl M pc L st H = some (.inr (.inl r)) := h
    simp only [mialdx, mald, nx] at h
    repeat' split at h
    all_goals cases h
  | baload =>
    have h : mbald pc L st H = some (.inr (.inl r)) := h
    simp only [mbald, nx] at h
    repeat' split at h
    all_goals cases h
  | laload =>
    have h : mlald pc L st H = some (.inr (.inl r)) := h
    simp only [mlald, nx] at h
    repeat' split at h
    all_goals cases h
  | aaload =>
    have h : maald pc L st H = some (.inr (.inl r)) := h
    simp only [maald, nx] at h
    repeat' split at h
    all_goals cases h
  | iastore =>
    have h : miast pc L st H = some (.inr (.inl r)) := h
    simp only [miast, nx] at h
    repeat' split at h
    all_goals cases h
  | bastore =>
    have h : mbast pc L st H = some (.inr (.inl r)) := h
    simp only [mbast, nx] at h
    repeat' split at h
    all_goals cases h
  | lastore =>
    have h : mlast pc L st H = some (.inr (.inl r)) := h
    simp only [mlast, nx] at h
    repeat' split at h
    all_goals cases h
  | aastore =>
    have h : maast pc L st H = some (.inr (.inl r)) := h
    simp only [maast, nx] at h
    repeat' split at h
    all_goals cases h
  | arraylength =>
    have h : malen sl M pc L st H = some (.inr (.inl r)) := h
    simp only [malen, nx] at h
    repeat' split at h
    all_goals cases h
  | new k =>
    have h : mnewo M k pc L st H = some (.inr (.inl r)) := h
    simp only [mnewo, nx] at h
    repeat' split at h
    all_goals cases h
  | newarray k =>
    have h : mnewa k pc L st H = some (.inr (.inl r)) := h
    simp only [mnewa, nx] at h
    repeat' split at h
    all_goals cases h
  | anewarray k =>
    have h : manew M pc k L st H = some (.inr (.inl r)) := h
    simp only [manew, nx] at h
    repeat' split at h
    all_goals cases h
  | invokevirtual k =>
    have h : minv 0 d M pc k L st H = some (.inr (.inl r)) := h
    simp only [minv, mcopy, mmath, mstr, nx] at h
    repeat' split at h
    all_goals cases h
  | invokestatic k =>
    have h : minv 1 d M pc k L st H = some (.inr (.inl r)) := h
    simp only [minv, mcopy, mmath, mstr, nx] at h
    repeat' split at h
    all_goals cases h
  | invokespecial k =>
    have h : minv 2 d M pc k L st H = some (.inr (.inl r)) := h
    simp only [minv, mcopy, mmath, mstr, nx] at h
    repeat' split at h
    all_goals cases h
  | _ => cases h
theorem mcall_ins {i : Instr} {q : Nat × List Value × List Value} (h : mstep xs sl d M i pc L st H = some (.inr (.inr q))) : (∃ k, i = .invokevirtual k ∧ minv 0 d M pc k L st H = some (.inr (.inr q))) ∨ (∃ k, i = .invokestatic k ∧ minv 1 d M pc k L st H = some (.inr (.inr q))) ∨ (∃ k, i = .invokespecial k ∧ minv 2 d M pc k L st H = some (.inr (.inr q))) := by
  cases i with
  | invokevirtual k => exact Or.inl ⟨k, rfl, h⟩
  | invokestatic k => exact Or.inr (Or.inl ⟨k, rfl, h⟩)
  | invokespecial k => exact Or.inr (Or.inr ⟨k, rfl, h⟩)
  | iload_n k =>
    have h : mldi L k (pc + 1) st H = some (.inr (.inr q)) := h
    simp only [mldi, nx] at h
    repeat' split at h
    all_goals cases h
  | iload k =>
    have h : mldi L k (pc + 2) st H = some (.inr (.inr q)) := h
    simp only [mldi, nx] at h
    repeat' split at h
    all_goals cases h
  | lload_n k =>
    have h : mldl L k (pc + 1) st H = some (.inr (.inr q)) := h
    simp only [mldl, nx] at h
    repeat' split at h
    all_goals cases h
  | lload k =>
    have h : mldl L k (pc + 2) st H = some (.inr (.inr q)) := h
    simp only [mldl, nx] at h
    repeat' split at h
    all_goals cases h
  | aload_n k =>
    have h : mlda L k (pc + 1) st H = some (.inr (.inr q)) := h
    simp only [mlda, nx] at h
    repeat' split at h
    all_goals cases h
  | aload k =>
    have h : mlda L k (pc + 2) st H = some (.inr (.inr q)) := h
    simp only [mlda, nx] at h
    repeat' split at h
    all_goals cases h
  | istore_n k =>
    have h : msti L k (pc + 1) st H = some (.inr (.inr q)) := h
    simp only [msti, nx] at h
    repeat' split at h
    all_goals cases h
  | istore k =>
    have h : msti L k (pc + 2) st H = some (.inr (.inr q)) := h
    simp only [msti, nx] at h
    repeat' split at h
    all_goals cases h
  | lstore_n k =>
    have h : mstl L k (pc + 1) st H = some (.inr (.inr q)) := h
    simp only [mstl, nx] at h
    repeat' split at h
    all_goals cases h
  | lstore k =>
    have h : mstl L k (pc + 2) st H = some (.inr (.inr q)) := h
    simp only [mstl, nx] at h
    repeat' split at h
    all_goals cases h
  | astore_n k =>
    have h : msta L k (pc + 1) st H = some (.inr (.inr q)) := h
    simp only [msta, nx] at h
    repeat' split at h
    all_goals cases h
  | astore k =>
    have h : msta L k (pc + 2) st H = some (.inr (.inr q)) := h
    simp only [msta, nx] at h
    repeat' split at h
    all_goals cases h
  | iinc k n =>
    have h : mincr L k n pc st H = some (.inr (.inr q)) := h
    simp only [mincr, nx] at h
    repeat' split at h
    all_goals cases h
  | ldc k =>
    have h : mldcs M k (pc + 2) L st H = some (.inr (.inr q)) := h
    simp only [mldcs, nx] at h
    repeat' split at h
    all_goals cases h
  | ldc_w k =>
    have h : mldc M k (pc + 3) L st H = some (.inr (.inr q)) := h
    simp only [mldc, nx] at h
    repeat' split at h
    all_goals cases h
  | ldc2_w k =>
    have h : mldc2 M k (pc + 3) L st H = some (.inr (.inr q)) := h
    simp only [mldc2, nx] at h
    repeat' split at h
    all_goals cases h
  | iadd =>
    have h : mii pc L st H (fun x y => x + y) = some (.inr (.inr q)) := h
    simp only [mii, nx] at h
    repeat' split at h
    all_goals cases h
  | isub =>
    have h : mii pc L st H (fun x y => x - y) = some (.inr (.inr q)) := h
    simp only [mii, nx] at h
    repeat' split at h
    all_goals cases h
  | imul =>
    have h : mii pc L st H (fun x y => x * y) = some (.inr (.inr q)) := h
    simp only [mii, nx] at h
    repeat' split at h
    all_goals cases h
  | iand =>
    have h : mii pc L st H (fun x y => x &&& y) = some (.inr (.inr q)) := h
    simp only [mii, nx] at h
    repeat' split at h
    all_goals cases h
  | ior =>
    have h : mii pc L st H (fun x y => x ||| y) = some (.inr (.inr q)) := h
    simp only [mii, nx] at h
    repeat' split at h
    all_goals cases h
  | ixor =>
    have h : mii pc L st H (fun x y => x ^^^ y) = some (.inr (.inr q)) := h
    simp only [mii, nx] at h
    repeat' split at h
    all_goals cases h
  | ishl =>
    have h : mii pc L st H (fun x y => x <<< (y &&& 31)) = some (.inr (.inr q)) := h
    simp only [mii, nx] at h
    repeat' split at h
    all_goals cases h
  | ishr =>
    have h : mii pc L st H (fun x y => x >>> (y &&& 31)) = some (.inr (.inr q)) := h
    simp only [mii, nx] at h
    repeat' split at h
    all_goals cases h
  | iushr =>
    have h : mii pc L st H (fun x y => (x.toUInt32 >>> (y.toUInt32 &&& Int32.toUInt32 31)).toInt32) = some (.inr (.inr q)) := h
    simp only [mii, nx] at h
    repeat' split at h
    all_goals cases h
  | ladd =>
    have h : mll pc L st H (fun x y => x + y) = some (.inr (.inr q)) := h
    simp only [mll, nx] at h
    repeat' split at h
    all_goals cases h
  | lsub =>
    have h : mll pc L st H (fun x y => x - y) = some (.inr (.inr q)) := h
    simp only [mll, nx] at h
    repeat' split at h
    all_goals cases h
  | lmul =>
    have h : mll pc L st H (fun x y => x * y) = some (.inr (.inr q)) := h
    simp only [mll, nx] at h
    repeat' split at h
    all_goals cases h
  | idiv =>
    have h : mdivi pc L st H (fun x y => x / y) = some (.inr (.inr q)) := h
    simp only [mdivi, nx] at h
    repeat' split at h
    all_goals cases h
  | irem =>
    have h : mdivi pc L st H (fun x y => x - x / y * y) = some (.inr (.inr q)) := h
    simp only [mdivi, nx] at h
    repeat' split at h
    all_goals cases h
  | ldiv =>
    have h : mdivl pc L st H (fun x y => x / y) = some (.inr (.inr q)) := h
    simp only [mdivl, nx] at h
    repeat' split at h
    all_goals cases h
  | lrem =>
    have h : mdivl pc L st H (fun x y => x - x / y * y) = some (.inr (.inr q)) := h
    simp only [mdivl, nx] at h
    repeat' split at h
    all_goals cases h
  | ineg =>
    have h : mun pc L st H (fun x => .int (-x)) = some (.inr (.inr q)) := h
    simp only [mun, nx] at h
    repeat' split at h
    all_goals cases h
  | i2l =>
    have h : mun pc L st H (fun x => .long x.toInt64) = some (.inr (.inr q)) := h
    simp only [mun, nx] at h
    repeat' split at h
    all_goals cases h
  | i2b =>
    have h : mun pc L st H (fun x => .int x.toInt8.toInt32) = some (.inr (.inr q)) := h
    simp only [mun, nx] at h
    repeat' split at h
    all_goals cases h
  | lcmp =>
    have h : mlcmp pc L st H = some (.inr (.inr q)) := h
    simp only [mlcmp, nx] at h
    repeat' split at h
    all_goals cases h
  | dup =>
    have h : mdup pc L st H = some (.inr (.inr q)) := h
    simp only [mdup, nx] at h
    repeat' split at h
    all_goals cases h
  | pop =>
    have h : mpop1 pc L st H = some (.inr (.inr q)) := h
    simp only [mpop1, nx] at h
    repeat' split at h
    all_goals cases h
  | dup2 =>
    have h : mdup2 pc L st H = some (.inr (.inr q)) := h
    simp only [mdup2, nx] at h
    repeat' split at h
    all_goals cases h
  | if_icmp k off =>
    have h : micmp k off pc L st H = some (.inr (.inr q)) := h
    simp only [micmp, mbr, nx] at h
    repeat' split at h
    all_goals cases h
  | ifCond k off =>
    have h : mif0 k off pc L st H = some (.inr (.inr q)) := h
    simp only [mif0, mbr, nx] at h
    repeat' split at h
    all_goals cases h
  | ifnull off =>
    have h : mifn off pc L st H = some (.inr (.inr q)) := h
    simp only [mifn, mgo, nx] at h
    repeat' split at h
    all_goals cases h
  | ifnonnull off =>
    have h : mifnn off pc L st H = some (.inr (.inr q)) := h
    simp only [mifnn, mgo, nx] at h
    repeat' split at h
    all_goals cases h
  | goto off =>
    have h : mgo pc off L st H = some (.inr (.inr q)) := h
    simp only [mgo, nx] at h
    repeat' split at h
    all_goals cases h
  | tableswitch a b c2 d2 =>
    have h : mtsw a b c2 d2 pc L st H = some (.inr (.inr q)) := h
    simp only [mtsw, mgo, nx] at h
    repeat' split at h
    all_goals cases h
  | lookupswitch a b =>
    have h : mlsw a b pc L st H = some (.inr (.inr q)) := h
    simp only [mlsw, mgo, nx] at h
    repeat' split at h
    all_goals cases h
  | getfield k =>
    have h : mgetf M pc k L st H = some (.inr (.inr q)) := h
    simp only [mgetf, nx] at h
    repeat' split at h
    all_goals cases h
  | putfield k =>
    have h : mputf M pc k L st H = some (.inr (.inr q)) := h
    simp only [mputf, nx] at h
    repeat' split at h
    all_goals cases h
  | iaload =>
    have h : mialdx xs sl M pc L st H = some (.inr (.inr q)) := h
    simp only [mialdx, mald, nx] at h
    repeat' split at h
    all_goals cases h
  | baload =>
    have h : mbald pc L st H = some (.inr (.inr q)) := h
    simp only [mbald, nx] at h
    repeat' split at h
    all_goals cases h
  | laload =>
    have h : mlald pc L st H = some (.inr (.inr q)) := h
    simp only [mlald, nx] at h
    repeat' split at h
    all_goals cases h
  | aaload =>
    have h : maald pc L st H = some (.inr (.inr q)) := h
    simp only [maald, nx] at h
    repeat' split at h
    all_goals cases h
  | iastore =>
    have h : miast pc L st H = some (.inr (.inr q)) := h
    simp only [miast, nx] at h
    repeat' split at h
    all_goals cases h
  | bastore =>
    have h : mbast pc L st H = some (.inr (.inr q)) := h
    simp only [mbast, nx] at h
    repeat' split at h
    all_goals cases h
  | lastore =>
    have h : mlast pc L st H = some (.inr (.inr q)) := h
    simp only [mlast, nx] at h
    repeat' split at h
    all_goals cases h
  | aastore =>
    have h : maast pc L st H = some (.inr (.inr q)) := h
    simp only [maast, nx] at h
    repeat' split at h
    all_goals cases h
  | arraylength =>
    have h : malen sl M pc L st H = some (.inr (.inr q)) := h
    simp only [malen, nx] at h
    repeat' split at h
    all_goals cases h
  | new k =>
    have h : mnewo M k pc L st H = some (.inr (.inr q)) := h
    simp only [mnewo, nx] at h
    repeat' split at h
    all_goals cases h
  | newarray k =>
    have h : mnewa k pc L st H = some (.inr (.inr q)) := h
    simp only [mnewa, nx] at h
    repeat' split at h
    all_goals cases h
  | anewarray k =>
    have h : manew M pc k L st H = some (.inr (.inr q)) := h
    simp only [manew, nx] at h
    repeat' split at h
    all_goals cases h
  | ireturn =>
    have h : mretv M st = some (.inr (.inr q)) := h
    simp only [mretv] at h
    repeat' split at h
    all_goals cases h
  | lreturn =>
    have h : mretl M st = some (.inr (.inr q)) := h
    simp only [mretl] at h
    repeat' split at h
    all_goals cases h
  | areturn =>
    have h : mreta M st = some (.inr (.inr q)) := h
    simp only [mreta] at h
    repeat' split at h
    all_goals cases h
  | return_ =>
    have h : mretn M st = some (.inr (.inr q)) := h
    simp only [mretn] at h
    repeat' split at h
    all_goals cases h
  | _ => cases h
theorem mret_snd {i : Instr} {r : Option Value} {ls : Array Slot} {Hr : Heap} {locs : List Loc} (F : mF p s m args meth c M base sa D cA xs sl d R) (hr : meth.sig.returnType = mret M) (hlocks : meth.locks = false) (hd : decode (mbytes M) pc = .ok (i, mlen i pc)) (h : mstep xs sl d M i pc L st H = some (.inr (.inl r))) (hW : mW base sa D cA H Hr) (hS : va_S (fun q => base ≤ q) s.heap Hr locs) : W p l e R s m args below meth c Hr locs cells slots (MQ below (mQc base sa D cA r H) args s cells slots (fun q => base ≤ q)) (F0 m pc ls (st.map (rv base sa))) := by
  have hx := F.1
  have hb := F.2.1
  rcases mret_ins h with rfl | rfl | rfl | rfl
  · have h : mretv M st = some (.inr (.inl r)) := h
    unfold mretv at h
    split at h
    · split at h
      · rename_i v _ hm
        cases h
        exact W.iret hx hb (hr.trans hm) (fun t ht hw => ⟨rfl, by rw [ht]; exact hW, hS.F ht⟩) hS.2.2 hd
      · rename_i v _ hm
        split at h
        · rename_i hv
          cases h
          exact W.zret (ty := .boolean) hx hb (hr.trans hm) (by rcases hv with rfl | rfl <;> decide) (fun t ht hw => ⟨rfl, by rw [ht]; exact hW, hS.F ht⟩) hS.2.2 hd
        · cases h
      · cases h
    · cases h
  · have h : mretl M st = some (.inr (.inl r)) := h
    unfold mretl at h
    split at h
    · split at h
      · rename_i v _ hm
        cases h
        exact W.lret hx hb (hr.trans hm) (fun t ht hw => ⟨rfl, by rw [ht]; exact hW, hS.F ht⟩) hS.2.2 hd
      · cases h
    · cases h
  · have h : mreta M st = some (.inr (.inl r)) := h
    unfold mreta at h
    split at h
    · rename_i C hm
      split at h
      · cases h
        exact W.aret hx hb (hr.trans hm) (Or.inl ⟨_, rfl⟩) (Or.inr ⟨_, rfl⟩) (fun t ht hw => ⟨rfl, by rw [ht]; exact hW, hS.F ht⟩) hS.2.2 hd
      · cases h
        exact W.aret hx hb (hr.trans hm) (Or.inl ⟨_, rfl⟩) (Or.inl rfl) (fun t ht hw => ⟨rfl, by rw [ht]; exact hW, hS.F ht⟩) hS.2.2 hd
      · cases h
        exact W.aret hx hb (hr.trans hm) (Or.inl ⟨_, rfl⟩) (Or.inr ⟨_, rfl⟩) (fun t ht hw => ⟨rfl, by rw [ht]; exact hW, hS.F ht⟩) hS.2.2 hd
      · cases h
    · cases h
  · have h : mretn M st = some (.inr (.inl r)) := h
    unfold mretn at h
    split at h
    · split at h
      · rename_i hm
        cases h
        exact W.vret hx hb (hr.trans hm) (fun t ht hw => ⟨rfl, by rw [ht]; exact hW, hS.F ht⟩) hS.2.2 hd
      · cases h
    · cases h
end MMAIN
