/-! LOOPS and small tools; bt, b_*, s_l, s_u began as rows of kit/laws/BITS.to-paste -/
section TOOLS
variable {xs : Nat → Int32} {sl d : Nat} {J : hJk} {s : hS} {g : hG}
theorem ex2 {α β : Type} {a : α} {b : β} {P : α → β → Prop} : (∃ v h, (v, h) = (a, b) ∧ P v h) ↔ P a b := by
  constructor
  · rintro ⟨v, h, e, q⟩
    cases e
    exact q
  · exact fun q => ⟨a, b, rfl, q⟩
def bI (b : Bool) : Int32 := if b then 1 else 0
theorem bI_or (b : Bool) : bI b = 0 ∨ bI b = 1 := by cases b <;> decide
theorem bI_eq0 (b : Bool) : (bI b = 0) = (b = false) := by cases b <;> decide
theorem bI_true : bI true = 1 := rfl
theorem bI_false : bI false = 0 := rfl
theorem one_ne : ((1 : Int32) = 0) = False := by decide
theorem up_up {α : Type} (f : Nat → α) (k : Nat) (v w : α) : va_up (va_up f k v) k w = va_up f k w := by
  funext j
  by_cases e : j = k
  · subst e
    rw [va_up_self, va_up_self]
  · rw [va_up_ne _ _ e, va_up_ne _ _ e, va_up_ne _ _ e]
theorem up_comm {α : Type} {f : Nat → α} {j k : Nat} {v w : α} (h : j < k) : va_up (va_up f k v) j w = va_up (va_up f j w) k v := by
  funext i
  by_cases e : i = j
  · subst e
    rw [va_up_self, va_up_ne _ _ (by omega), va_up_self]
  · rw [va_up_ne _ _ e]
    by_cases e2 : i = k
    · subst e2
      rw [va_up_self, va_up_self]
    · rw [va_up_ne _ _ e2, va_up_ne _ _ e2, va_up_ne _ _ e]
theorem up_id {α : Type} (f : Nat → α) (k : Nat) : va_up f k (f k) = f := by
  funext j
  by_cases e : j = k
  · subst e
    rw [va_up_self]
  · rw [va_up_ne _ _ e]
theorem nI_subL {a n : Nat} (h : OfNat.ofNat n ≤ a) : nI a - (no_index (OfNat.ofNat n : Int32)) = nI (a - OfNat.ofNat n) := pk_sub h
theorem nI_divL {a n : Nat} (ha : a < 2 ^ 31) (h0 : 0 < (OfNat.ofNat n : Nat)) (hn : (OfNat.ofNat n : Nat) < 2 ^ 31) : nI a / (no_index (OfNat.ofNat n : Int32)) = nI (a / OfNat.ofNat n) := pk_div ha h0 hn
theorem sub_dm (a b : Nat) : a - b * (a / b) = a % b := (Nat.mod_eq_sub ..).symm
theorem cleT {a b : Nat} (h : a ≤ b) : (a ≤ b) = True := eq_true h
theorem cleF {a b : Nat} (h : b < a) : (a ≤ b) = False := eq_false (by omega)
theorem cltT {a b : Nat} (h : a < b) : (a < b) = True := eq_true h
theorem cltF {a b : Nat} (h : b ≤ a) : (a < b) = False := eq_false (by omega)
theorem ceqT {a b : Nat} (h : a = b) : (a = b) = True := eq_true h
theorem ceqF {a b : Nat} (h : a ≠ b) : (a = b) = False := eq_false h
theorem Runs.tgt {M pc : Nat} {L : mL} {st : List Value} {H : mH} {r0 : Option Value × mH} (h : ∀ z, z = r0 → Runs xs sl d M pc L st H z) : Runs xs sl d M pc L st H r0 := h r0 rfl
/-- counted loops: the state behind the first n steps -/
def it {α : Type} (f : Nat → α → α) : Nat → α → α
  | 0, x => x
  | n + 1, x => f n (it f n x)
theorem dn_loop {P : Nat → Prop} (n : Nat) (step : ∀ i, i < n → P (i + 1) → P i) (h : P n) : P 0 := by
  have q : ∀ k, k ≤ n → P (n - k) := by
    intro k
    induction k with
    | zero => intro _; exact h
    | succ k ih =>
      intro hk
      have e : n - (k + 1) + 1 = n - k := by omega
      exact step _ (by omega) (e ▸ ih (by omega))
  have z := q n (Nat.le_refl n)
  rwa [Nat.sub_self] at z
theorem it_inv {α : Type} {f : Nat → α → α} {n : Nat} {x : α} (I : Nat → α → Prop) (h0 : I 0 x) (hs : ∀ i y, i < n → I i y → I (i + 1) (f i y)) : ∀ i, i ≤ n → I i (it f i x) := by
  intro i
  induction i with
  | zero => intro _; exact h0
  | succ i ih => intro hi; exact hs i _ (by omega) (ih (by omega))
theorem it_rel {α β : Type} {f : Nat → α → α} {f' : Nat → β → β} {n : Nat} {x : α} {y : β} (R : Nat → α → β → Prop) (h0 : R 0 x y) (hs : ∀ i x y, i < n → R i x y → R (i + 1) (f i x) (f' i y)) : ∀ i, i ≤ n → R i (it f i x) (it f' i y) := by
  intro i
  induction i with
  | zero => intro _; exact h0
  | succ i ih => intro hi; exact hs i _ _ (by omega) (ih (by omega))
theorem it_congr {α : Type} {f f' : Nat → α → α} {n : Nat} {x : α} (h : ∀ i y, i < n → f i y = f' i y) : it f n x = it f' n x := by
  have q : ∀ i, i ≤ n → it f i x = it f' i x := by
    intro i
    induction i with
    | zero => intro _; rfl
    | succ i ih =>
      intro hi
      rw [it, it, ih (by omega)]
      exact h i _ (by omega)
  exact q n (Nat.le_refl n)
theorem cpy_snoc {α : Type} (v f : Nat → α) (b i : Nat) : va_up (va_cpy v f 0 b i) (b + i) (v i) = va_cpy v f 0 b (i + 1) := by
  funext j
  by_cases e : j = b + i
  · subst e
    rw [va_up_self, pk_cpy_in (by omega) (by omega)]
    congr 1
    omega
  · rw [va_up_ne _ _ e]
    by_cases c : b ≤ j ∧ j < b + i
    · rw [pk_cpy_in c.1 c.2, pk_cpy_in c.1 (by omega)]
    · rw [pk_cpy_out (by omega), pk_cpy_out (by omega)]
theorem cpy_snoc0 {α : Type} (v f : Nat → α) (i : Nat) : va_up (va_cpy v f 0 0 i) i (v i) = va_cpy v f 0 0 (i + 1) := by
  have h := cpy_snoc v f 0 i
  rwa [Nat.zero_add] at h
theorem cpy_zero {α : Type} (v f : Nat → α) (p b : Nat) : va_cpy v f p b 0 = f := by
  funext j
  exact pk_cpy_out (by omega)
/-! bits -/
def bt (x : Int32) (i : Nat) : Bool := x.toBitVec.getLsbD i
theorem b_ext {x y : Int32} (h : ∀ i, i < 32 → bt x i = bt y i) : x = y := Int32.toBitVec_inj.mp (BitVec.eq_of_getLsbD_eq (fun i hi => h i hi))
theorem b_or (x y : Int32) (i : Nat) : bt (x ||| y) i = (bt x i || bt y i) := by unfold bt; rw [Int32.toBitVec_or, BitVec.getLsbD_or]
theorem b_and (x y : Int32) (i : Nat) : bt (x &&& y) i = (bt x i && bt y i) := by unfold bt; rw [Int32.toBitVec_and, BitVec.getLsbD_and]
theorem b_big {x : Int32} {i : Nat} (h : 32 ≤ i) : bt x i = false := BitVec.getLsbD_of_ge _ _ h
theorem b_m1 : ∀ i, i < 32 → bt (-1) i = true := by decide +kernel
theorem b_0 (i : Nat) : bt 0 i = false := BitVec.getLsbD_zero
theorem s_l : ∀ n, n < 32 → ((nI n &&& 31).toBitVec.smod 32).toNat = n := by decide +kernel
theorem s_u : ∀ n, n < 32 → (((nI n).toUInt32 &&& Int32.toUInt32 31).toBitVec % 32).toNat = n := by decide +kernel
theorem b_shl (n : Nat) (hn : n < 32) (x : Int32) {i : Nat} (hi : i < 32) : bt (x <<< (nI n &&& 31)) i = (decide (n ≤ i) && bt x (i - n)) := by
  unfold bt
  rw [Int32.toBitVec_shiftLeft]
  show (x.toBitVec <<< ((nI n &&& 31).toBitVec.smod 32).toNat).getLsbD i = _
  rw [s_l n hn, BitVec.getLsbD_shiftLeft]
  rcases Nat.lt_or_ge i n with h | h
  · simp [h, Nat.not_le.mpr h]
  · simp [hi, h, Nat.not_lt.mpr h]
theorem b_ushr (n : Nat) (hn : n < 32) (x : Int32) (i : Nat) : bt ((x.toUInt32 >>> ((nI n).toUInt32 &&& Int32.toUInt32 31)).toInt32) i = bt x (n + i) := by
  show (x.toUInt32 >>> ((nI n).toUInt32 &&& Int32.toUInt32 31)).toBitVec.getLsbD i = x.toUInt32.toBitVec.getLsbD (n + i)
  rw [UInt32.toBitVec_shiftRight]
  show (x.toUInt32.toBitVec >>> (((nI n).toUInt32 &&& Int32.toUInt32 31).toBitVec % 32).toNat).getLsbD i = _
  rw [s_u n hn, BitVec.getLsbD_ushiftRight]
theorem b_sshr (n : Nat) (hn : n < 32) (x : Int32) {i : Nat} (hi : i < 32) : bt (x >>> (nI n &&& 31)) i = if n + i < 32 then bt x (n + i) else bt x 31 := by
  unfold bt
  rw [Int32.toBitVec_shiftRight]
  show (x.toBitVec.sshiftRight ((nI n &&& 31).toBitVec.smod 32).toNat).getLsbD i = _
  rw [s_l n hn, BitVec.getLsbD_sshiftRight, BitVec.msb_eq_getLsbD_last]
  simp [hi]
theorem b_31 (x : Int32) : bt x 31 = decide (x < 0) := by
  have h := BitVec.msb_eq_toInt (x := x.toBitVec)
  rw [BitVec.msb_eq_getLsbD_last] at h
  unfold bt
  refine h.trans (decide_eq_decide.mpr ?_)
  rw [Int32.lt_iff_toInt_lt, show (0 : Int32).toInt = 0 from rfl]
  exact Iff.rfl
theorem b_nI (n i : Nat) (hi : i < 32) : bt (nI n) i = n.testBit i := by
  show (BitVec.ofNat 32 n).getLsbD i = _
  rw [BitVec.getLsbD_ofNat, decide_eq_true hi, Bool.true_and]
def sg (x : Int32) : Int32 := if x ≤ 0 then (if 0 ≤ x then 0 else -1) else 1
theorem neg_neg0 {x : Int32} (h : ¬ x ≤ 0) : -x < 0 := by
  rw [Int32.lt_iff_toInt_lt, Int32.toInt_neg, show (0 : Int32).toInt = 0 from rfl]
  rw [Int32.le_iff_toInt_le, show (0 : Int32).toInt = 0 from rfl] at h
  have h2 : x.toInt ≤ 2147483647 := Int32.toInt_le x
  rw [Int.bmod_eq_of_le (by omega) (by omega)]
  omega
theorem signum_eq (x : Int32) : (x >>> ((31 : Int32) &&& 31)) ||| (((-x).toUInt32 >>> (Int32.toUInt32 31 &&& Int32.toUInt32 31)).toInt32) = sg x := by
  have e1 : ∀ i, i < 32 → bt (x >>> ((31 : Int32) &&& 31)) i = decide (x < 0) := by
    intro i hi
    have q := b_sshr 31 (by omega) x hi
    refine (show bt (x >>> ((31 : Int32) &&& 31)) i = _ from q).trans ?_
    rw [← b_31]
    by_cases c : 31 + i < 32
    · have z : i = 0 := by omega
      subst z
      rw [if_pos c]
    · rw [if_neg c]
  have e2 : ∀ i, bt (((-x).toUInt32 >>> (Int32.toUInt32 31 &&& Int32.toUInt32 31)).toInt32) i = (decide (i = 0) && decide (-x < 0)) := by
    intro i
    have q := b_ushr 31 (by omega) (-x) i
    refine (show bt (((-x).toUInt32 >>> (Int32.toUInt32 31 &&& Int32.toUInt32 31)).toInt32) i = _ from q).trans ?_
    by_cases c : i = 0
    · subst c
      rw [b_31]
      simp
    · rw [b_big (by omega)]
      simp [c]
  apply b_ext
  intro i hi
  rw [b_or, e1 i hi, e2 i]
  unfold sg
  by_cases c1 : x ≤ 0
  · rw [if_pos c1]
    by_cases c2 : 0 ≤ x
    · have z : x = 0 := Int32.le_antisymm c1 c2
      subst z
      rw [if_pos c2, b_0]
      simp
    · rw [if_neg c2, b_m1 i hi, decide_eq_true (p := x < 0) (Int32.not_le.mp c2)]
      rfl
  · have z : ¬ x < 0 := fun q => c1 (Int32.le_of_lt q)
    rw [if_neg c1, decide_eq_false z, decide_eq_true (neg_neg0 c1)]
    exact (by decide +kernel : ∀ i, i < 32 → (false || (decide (i = 0) && true)) = bt 1 i) i hi
theorem zx_signum {H : mH} (x : Int32) {r : Option Value × mH} : Runs xs sl d 286 0 [some (.int x)] [] H r ↔ r = (some (.int (sg x)), H) := by
  refine Runs.iff ?_
  simp only [r286_0, r286_1, r286_3, r286_4, r286_5, r286_6, r286_8, r286_9, r286_10, signum_eq]
/-- how many bits a small number has -/
def bc (k : Nat) : Nat := k % 2 + k / 2 % 2 + k / 4 % 2 + k / 8 % 2 + k / 16 % 2 + k / 32 % 2 + k / 64 % 2 + k / 128 % 2
theorem bc_le {k : Nat} : bc k ≤ 8 := by unfold bc; omega
set_option maxRecDepth 4000 in
theorem zx_bitCount {H : mH} {k : Nat} (hk : k < 256) {r : Option Value × mH} : Runs xs sl d 287 0 [some (.int (nI k))] [] H r ↔ r = (some (.int (nI (bc k))), H) := by
  refine Runs.iff ?_
  simp only [r287_0, r287_1, r287_2, r287_3, r287_4, r287_7, r287_8, r287_9, r287_10, r287_11, r287_14, r287_15, r287_16, r287_17, r287_18, r287_21, r287_22, r287_23, r287_24, r287_25, r287_26, r287_27, r287_28, r287_29, r287_32, r287_33, r287_34, r287_35, r287_36, r287_38, r287_39, r287_40, r287_41, r287_42, r287_43, r287_45, r287_46, r287_47, r287_48, r287_49, r287_51, r287_52]
  refine congrArg (fun v => (some (Value.int v), H)) ?_
  revert hk
  revert k
  decide +kernel
/-- an array of ints, filled -/
theorem zx_fill {b n : Nat} {v : Int32} (hL : ∀ s : hS, hLen (hp J s g) b = some (nI n)) (hS : ∀ (s : hS) (i : Nat) (v : Int32), i < n → hAw (hp J s g) b 0 (nI i) v = some (hp J (va_up s b (va_up (s b) i v)) g)) (hn : n < 10000) {r : Option Value × mH} : Runs xs sl (d) 291 0 [some (.ref (b)), some (.int (v)), none, none] [] (hp J (s) g) r ↔ r = (none, hp J (va_up s b (va_cpy (fun _ => v) (s b) 0 0 n)) g) := by
  refine Runs.iff ?_
  simp (disch := first | omega | assumption | exact Or.inl rfl | exact Or.inr rfl | exact bI_or _ | exact zC81 | exact zC47 | exact zC65 | exact zC0 | exact zC1 | exact zC32 | exact zC70 | exact zC73 | exact ztc (by assumption) | exact zdc (by assumption) | exact zpc (by assumption) | decide) only [Option.some.injEq, exists_eq_left', ex2, Option.toList, List.singleton_append, List.append_nil, List.cons_append, List.nil_append, nI_add, nI_addL, nI_Ladd, pk_mul, nI_mulL, nI_Lmul, nI_subL, pk_sub, nI_divL, sub_dm, nI_leE, nI_ltE, nI_eqE, nI_Lle, nI_leL, nI_Llt, nI_ltL, nI_eqL, va_up_self, va_up_ne, up_up, up_comm, nI_clamp, bI_eq0, not_true_eq_false, not_false_eq_true, Nat.reduceEqDiff, Nat.reduceLeDiff, Nat.reduceAdd, Nat.reduceMul, Nat.one_ne_zero, Nat.zero_ne_one, decide_eq_false_iff_not, decide_eq_true_eq, Bool.false_eq_true, decide_true, decide_false, bI_true, bI_false, one_ne, Nat.le_refl, Nat.lt_irrefl, cleT, cleF, cltT, cltF, ceqT, ceqF, ↓reduceIte, r291_0, r291_1, r291_2, r291_2n, r291_3, r291_4, hL]
  have e0 : hp J s g = hp J (va_up s b (va_cpy (fun _ => v) (s b) 0 0 0)) g := by rw [cpy_zero, up_id]
  rw [e0]
  refine dn_loop (P := fun i => Runs xs sl (d) 291 5 [some (.ref (b)), some (.int (v)), some (.int ( nI i)), some (.int ( nI n))] [] (hp J (va_up s b (va_cpy (fun _ => v) (s b) 0 0 i)) g) _) n ?_ ?_
  · intro i hi h
    rw [r291_5]
    have c : ¬ n ≤ i := by omega
    have c2 : (fun _ => v : Nat → Int32) i = v := rfl
    have e := cpy_snoc0 (fun _ => v) (s b) i
    simp (disch := first | omega | assumption | exact Or.inl rfl | exact Or.inr rfl | exact bI_or _ | exact zC81 | exact zC47 | exact zC65 | exact zC0 | exact zC1 | exact zC32 | exact zC70 | exact zC73 | exact ztc (by assumption) | exact zdc (by assumption) | exact zpc (by assumption) | decide) only [Option.some.injEq, exists_eq_left', ex2, Option.toList, List.singleton_append, List.append_nil, List.cons_append, List.nil_append, nI_add, nI_addL, nI_Ladd, pk_mul, nI_mulL, nI_Lmul, nI_subL, pk_sub, nI_divL, sub_dm, nI_leE, nI_ltE, nI_eqE, nI_Lle, nI_leL, nI_Llt, nI_ltL, nI_eqL, va_up_self, va_up_ne, up_up, up_comm, nI_clamp, bI_eq0, not_true_eq_false, not_false_eq_true, Nat.reduceEqDiff, Nat.reduceLeDiff, Nat.reduceAdd, Nat.reduceMul, Nat.one_ne_zero, Nat.zero_ne_one, decide_eq_false_iff_not, decide_eq_true_eq, Bool.false_eq_true, decide_true, decide_false, bI_true, bI_false, one_ne, Nat.le_refl, Nat.lt_irrefl, cleT, cleF, cltT, cltF, ceqT, ceqF, ↓reduceIte, r291_6, r291_7, r291_10, r291_10n, r291_11, r291_12, r291_13, r291_14, r291_17, hS, c]
    rw [e]
    exact h
  · rw [r291_5]
    simp (disch := first | omega | assumption | exact Or.inl rfl | exact Or.inr rfl | exact bI_or _ | exact zC81 | exact zC47 | exact zC65 | exact zC0 | exact zC1 | exact zC32 | exact zC70 | exact zC73 | exact ztc (by assumption) | exact zdc (by assumption) | exact zpc (by assumption) | decide) only [Option.some.injEq, exists_eq_left', ex2, Option.toList, List.singleton_append, List.append_nil, List.cons_append, List.nil_append, nI_add, nI_addL, nI_Ladd, pk_mul, nI_mulL, nI_Lmul, nI_subL, pk_sub, nI_divL, sub_dm, nI_leE, nI_ltE, nI_eqE, nI_Lle, nI_leL, nI_Llt, nI_ltL, nI_eqL, va_up_self, va_up_ne, up_up, up_comm, nI_clamp, bI_eq0, not_true_eq_false, not_false_eq_true, Nat.reduceEqDiff, Nat.reduceLeDiff, Nat.reduceAdd, Nat.reduceMul, Nat.one_ne_zero, Nat.zero_ne_one, decide_eq_false_iff_not, decide_eq_true_eq, Bool.false_eq_true, decide_true, decide_false, bI_true, bI_false, one_ne, Nat.le_refl, Nat.lt_irrefl, cleT, cleF, cltT, cltF, ceqT, ceqF, ↓reduceIte, r291_6, r291_7, r291_10, r291_10n, r291_11, r291_12, r291_13, r291_14, r291_17, r291_20]
/-! an int that is one of few -/
def vw (x : Int32) : Prop := ∃ k : Nat, k < 7 ∧ x = nI k - 3
theorem nI_of01 {x : Int32} (h : x = 0 ∨ x = 1) : ∃ b : Bool, x = bI b := by
  rcases h with rfl | rfl
  · exact ⟨false, rfl⟩
  · exact ⟨true, rfl⟩
def f_inr (x : Int32) (n : Nat) : Bool := decide (0 ≤ x) && decide (x < nI n)
theorem sh1 : ∀ l, l < 31 → (1 : Int32) <<< (nI l &&& 31) = nI (2 ^ l) := by decide +kernel
theorem sh2 : ∀ l, l < 30 → (2 : Int32) <<< (nI l &&& 31) = nI (2 * 2 ^ l) := by decide +kernel
theorem shr_nI {k l : Nat} (hk : k < 2 ^ 31) (hl : l < 32) : nI k >>> (nI l &&& 31) = nI (k / 2 ^ l) := by
  apply b_ext
  intro i hi
  rw [b_sshr l hl _ hi, b_nI _ _ hi]
  have h31 : bt (nI k) 31 = false := by
    rw [b_nI _ _ (by omega)]
    exact Nat.testBit_lt_two_pow hk
  rw [Nat.testBit_div_two_pow]
  by_cases c : l + i < 32
  · rw [if_pos c, b_nI _ _ c, Nat.add_comm]
  · rw [if_neg c, h31]
    refine (Nat.testBit_lt_two_pow (Nat.lt_of_lt_of_le hk (Nat.pow_le_pow_right (by decide) (by omega)))).symm
theorem and_nI (a b : Nat) : nI a &&& nI b = nI (a &&& b) := by
  apply Int32.toBitVec_inj.1
  show BitVec.ofNat 32 a &&& BitVec.ofNat 32 b = BitVec.ofNat 32 (a &&& b)
  apply BitVec.eq_of_getLsbD_eq
  intro i hi
  simp [hi]
theorem or_nI (a b : Nat) : nI a ||| nI b = nI (a ||| b) := by
  apply Int32.toBitVec_inj.1
  show BitVec.ofNat 32 a ||| BitVec.ofNat 32 b = BitVec.ofNat 32 (a ||| b)
  apply BitVec.eq_of_getLsbD_eq
  intro i hi
  simp [hi]
theorem and1_nI (a : Nat) : nI a &&& 1 = nI (a % 2) := by
  rw [show (1 : Int32) = nI 1 from rfl, and_nI, Nat.and_one_is_mod]
/-- a bit of a set -/
theorem bit_nI {k l : Nat} (hk : k < 2 ^ 31) (hl : l < 32) : nI k >>> (nI l &&& 31) &&& 1 = nI (k / 2 ^ l % 2) := by
  rw [shr_nI hk hl, and1_nI]
end TOOLS
