/-! ROWS, printed by wip/whole/rows.py: BreadTalk$Town -/
section ROWS
variable {xs : Nat → Int32} {sl d : Nat} {H : mH} {r : Option Value × mH} {l0 l1 l2 l3 l4 l5 l6 l7 l8 l9 l10 l11 : Option Value} {s0 s1 s2 s3 s4 s5 s6 s7 s8 s9 s10 s11 : Value} {i0 i1 i2 i3 i4 i5 i6 i7 i8 i9 i10 i11 : Int32} {j0 j1 j2 j3 j4 j5 j6 j7 j8 j9 j10 j11 : Int64} {a0 a1 a2 a3 a4 a5 a6 a7 a8 a9 a10 a11 : Nat} {u0 u1 u2 u3 u4 u5 u6 u7 u8 u9 u10 u11 : Int32} {w0 w1 w2 w3 w4 w5 w6 w7 w8 w9 w10 w11 : Int64} {b0 b1 b2 b3 b4 b5 b6 b7 b8 b9 b10 b11 : Nat}
theorem mo_148 (pc : Nat) {i : Instr} (h : mt_148.lookup pc = some i) : mop 148 pc = some i := h
theorem r148_0 : Runs xs sl d 148 0 [some (.ref a0)] [] H r ↔ Runs xs sl d 148 1 [some (.ref a0)] [.ref a0] H r := run_step (mo_148 0 rfl) rfl
theorem r148_1 : Runs xs sl (d + 1) 148 1 [l0] [.ref b0] H r ↔ ∃ v H1, Runs xs sl d 292 0 [some (.ref b0)] [] H (v, H1) ∧ Runs xs sl (d + 1) 148 4 [l0] (v.toList ++ []) H1 r := run_callI (M' := 292) (as := []) (rest := []) (mo_148 1 rfl) rfl rfl (Nat.le_of_ble_eq_true rfl) (Nat.le_of_ble_eq_true rfl) rfl rfl
theorem r148_4 : Runs xs sl d 148 4 [some (.ref a0)] [] H r ↔ Runs xs sl d 148 5 [some (.ref a0)] [.ref a0] H r := run_step (mo_148 4 rfl) rfl
theorem r148_5 : Runs xs sl d 148 5 [l0] [s0] H r ↔ Runs xs sl d 148 6 [l0] [.int 3, s0] H r := run_step (mo_148 5 rfl) rfl
theorem r148_6 : Runs xs sl d 148 6 [l0] [.int u1, .ref b0] H r ↔ ∃ H1, hOw H b0 8 0 (.int u1) = some H1 ∧ Runs xs sl d 148 9 [l0] [] H1 r := run_putf (mo_148 6 rfl) rfl rfl rfl rfl
theorem r148_9 : Runs xs sl d 148 9 [some (.ref a0)] [] H r ↔ Runs xs sl d 148 10 [some (.ref a0)] [.ref a0] H r := run_step (mo_148 9 rfl) rfl
theorem r148_10 : Runs xs sl d 148 10 [l0] [s0] H r ↔ Runs xs sl d 148 11 [l0] [.int 3, s0] H r := run_step (mo_148 10 rfl) rfl
theorem r148_11 : Runs xs sl d 148 11 [l0] [.int u1, .ref b0] H r ↔ ∃ H1, hOw H b0 8 1 (.int u1) = some H1 ∧ Runs xs sl d 148 14 [l0] [] H1 r := run_putf (mo_148 11 rfl) rfl rfl rfl rfl
theorem r148_14 : Runs xs sl d 148 14 [some (.ref a0)] [] H r ↔ Runs xs sl d 148 15 [some (.ref a0)] [.ref a0] H r := run_step (mo_148 14 rfl) rfl
theorem r148_15 : Runs xs sl d 148 15 [l0] [s0] H r ↔ Runs xs sl d 148 17 [l0] [.int 8, s0] H r := run_step (mo_148 15 rfl) rfl
theorem r148_17 (h : ¬ (u1 < 0 ∨ 100000 < u1.toNatClampNeg)) : Runs xs sl d 148 17 [l0] [.int u1, s0] H r ↔ Runs xs sl d 148 19 [l0] [.ref H.2.1, s0] (mnew H (mI 0 u1.toNatClampNeg (fun _ => 0)) u1.toNatClampNeg) r := run_step (mo_148 17 rfl) (if_neg h)
theorem r148_19 : Runs xs sl d 148 19 [l0] [.ref b1, .ref b0] H r ↔ ∃ H1, hOw H b0 8 5 (.ref b1) = some H1 ∧ Runs xs sl d 148 22 [l0] [] H1 r := run_putf (mo_148 19 rfl) rfl rfl rfl rfl
theorem r148_22 : Runs xs sl d 148 22 [some (.ref a0)] [] H r ↔ Runs xs sl d 148 23 [some (.ref a0)] [.ref a0] H r := run_step (mo_148 22 rfl) rfl
theorem r148_23 : Runs xs sl d 148 23 [l0] [s0] H r ↔ Runs xs sl d 148 25 [l0] [.int 8, s0] H r := run_step (mo_148 23 rfl) rfl
theorem r148_25 (h : ¬ (u1 < 0 ∨ 100000 < u1.toNatClampNeg)) : Runs xs sl d 148 25 [l0] [.int u1, s0] H r ↔ Runs xs sl d 148 27 [l0] [.ref H.2.1, s0] (mnew H (mI 0 u1.toNatClampNeg (fun _ => 0)) u1.toNatClampNeg) r := run_step (mo_148 25 rfl) (if_neg h)
theorem r148_27 : Runs xs sl d 148 27 [l0] [.ref b1, .ref b0] H r ↔ ∃ H1, hOw H b0 8 6 (.ref b1) = some H1 ∧ Runs xs sl d 148 30 [l0] [] H1 r := run_putf (mo_148 27 rfl) rfl rfl rfl rfl
theorem r148_30 : Runs xs sl d 148 30 [some (.ref a0)] [] H r ↔ Runs xs sl d 148 31 [some (.ref a0)] [.ref a0] H r := run_step (mo_148 30 rfl) rfl
theorem r148_31 : Runs xs sl d 148 31 [l0] [s0] H r ↔ Runs xs sl d 148 33 [l0] [.int 8, s0] H r := run_step (mo_148 31 rfl) rfl
theorem r148_33 (h : ¬ (u1 < 0 ∨ 100000 < u1.toNatClampNeg)) : Runs xs sl d 148 33 [l0] [.int u1, s0] H r ↔ Runs xs sl d 148 35 [l0] [.ref H.2.1, s0] (mnew H (mI 0 u1.toNatClampNeg (fun _ => 0)) u1.toNatClampNeg) r := run_step (mo_148 33 rfl) (if_neg h)
theorem r148_35 : Runs xs sl d 148 35 [l0] [.ref b1, .ref b0] H r ↔ ∃ H1, hOw H b0 8 7 (.ref b1) = some H1 ∧ Runs xs sl d 148 38 [l0] [] H1 r := run_putf (mo_148 35 rfl) rfl rfl rfl rfl
theorem r148_38 : Runs xs sl d 148 38 [some (.ref a0)] [] H r ↔ Runs xs sl d 148 39 [some (.ref a0)] [.ref a0] H r := run_step (mo_148 38 rfl) rfl
theorem r148_39 : Runs xs sl d 148 39 [l0] [s0] H r ↔ Runs xs sl d 148 41 [l0] [.int 48, s0] H r := run_step (mo_148 39 rfl) rfl
theorem r148_41 (h : ¬ (u1 < 0 ∨ 100000 < u1.toNatClampNeg)) : Runs xs sl d 148 41 [l0] [.int u1, s0] H r ↔ Runs xs sl d 148 43 [l0] [.ref H.2.1, s0] (mnew H (mI 0 u1.toNatClampNeg (fun _ => 0)) u1.toNatClampNeg) r := run_step (mo_148 41 rfl) (if_neg h)
theorem r148_43 : Runs xs sl d 148 43 [l0] [.ref b1, .ref b0] H r ↔ ∃ H1, hOw H b0 8 8 (.ref b1) = some H1 ∧ Runs xs sl d 148 46 [l0] [] H1 r := run_putf (mo_148 43 rfl) rfl rfl rfl rfl
theorem r148_46 : Runs xs sl d 148 46 [some (.ref a0)] [] H r ↔ Runs xs sl d 148 47 [some (.ref a0)] [.ref a0] H r := run_step (mo_148 46 rfl) rfl
theorem r148_47 : Runs xs sl d 148 47 [l0] [s0] H r ↔ Runs xs sl d 148 49 [l0] [.int 36, s0] H r := run_step (mo_148 47 rfl) rfl
theorem r148_49 (h : ¬ (u1 < 0 ∨ 100000 < u1.toNatClampNeg)) : Runs xs sl d 148 49 [l0] [.int u1, s0] H r ↔ Runs xs sl d 148 51 [l0] [.ref H.2.1, s0] (mnew H (mI 0 u1.toNatClampNeg (fun _ => 0)) u1.toNatClampNeg) r := run_step (mo_148 49 rfl) (if_neg h)
theorem r148_51 : Runs xs sl d 148 51 [l0] [.ref b1, .ref b0] H r ↔ ∃ H1, hOw H b0 8 9 (.ref b1) = some H1 ∧ Runs xs sl d 148 54 [l0] [] H1 r := run_putf (mo_148 51 rfl) rfl rfl rfl rfl
theorem r148_54 : Runs xs sl d 148 54 [some (.ref a0)] [] H r ↔ Runs xs sl d 148 55 [some (.ref a0)] [.ref a0] H r := run_step (mo_148 54 rfl) rfl
theorem r148_55 : Runs xs sl d 148 55 [l0] [s0] H r ↔ Runs xs sl d 148 57 [l0] [.int 8, s0] H r := run_step (mo_148 55 rfl) rfl
theorem r148_57 (h : ¬ (u1 < 0 ∨ 100000 < u1.toNatClampNeg)) : Runs xs sl d 148 57 [l0] [.int u1, s0] H r ↔ Runs xs sl d 148 59 [l0] [.ref H.2.1, s0] (mnew H (mI 0 u1.toNatClampNeg (fun _ => 0)) u1.toNatClampNeg) r := run_step (mo_148 57 rfl) (if_neg h)
theorem r148_59 : Runs xs sl d 148 59 [l0] [.ref b1, .ref b0] H r ↔ ∃ H1, hOw H b0 8 10 (.ref b1) = some H1 ∧ Runs xs sl d 148 62 [l0] [] H1 r := run_putf (mo_148 59 rfl) rfl rfl rfl rfl
theorem r148_62 : Runs xs sl d 148 62 [some (.ref a0)] [] H r ↔ Runs xs sl d 148 63 [some (.ref a0)] [.ref a0] H r := run_step (mo_148 62 rfl) rfl
theorem r148_63 : Runs xs sl d 148 63 [l0] [s0] H r ↔ Runs xs sl d 148 65 [l0] [.int 8, s0] H r := run_step (mo_148 63 rfl) rfl
theorem r148_65 (h : ¬ (u1 < 0 ∨ 100000 < u1.toNatClampNeg)) : Runs xs sl d 148 65 [l0] [.int u1, s0] H r ↔ Runs xs sl d 148 67 [l0] [.ref H.2.1, s0] (mnew H (mI 0 u1.toNatClampNeg (fun _ => 0)) u1.toNatClampNeg) r := run_step (mo_148 65 rfl) (if_neg h)
theorem r148_67 : Runs xs sl d 148 67 [l0] [.ref b1, .ref b0] H r ↔ ∃ H1, hOw H b0 8 11 (.ref b1) = some H1 ∧ Runs xs sl d 148 70 [l0] [] H1 r := run_putf (mo_148 67 rfl) rfl rfl rfl rfl
theorem r148_70 : Runs xs sl d 148 70 [l0] [] H r ↔ r = (none, H) := run_ret (mo_148 70 rfl) rfl
theorem mo_149 (pc : Nat) {i : Instr} (h : mt_149.lookup pc = some i) : mop 149 pc = some i := h
theorem r149_0 : Runs xs sl d 149 0 [some (.ref a0)] [] H r ↔ Runs xs sl d 149 1 [some (.ref a0)] [.ref a0] H r := run_step (mo_149 0 rfl) rfl
theorem r149_1 : Runs xs sl d 149 1 [l0] [s0] H r ↔ Runs xs sl d 149 2 [l0] [.int 3, s0] H r := run_step (mo_149 1 rfl) rfl
theorem r149_2 : Runs xs sl d 149 2 [l0] [.int u1, .ref b0] H r ↔ ∃ H1, hOw H b0 8 0 (.int u1) = some H1 ∧ Runs xs sl d 149 5 [l0] [] H1 r := run_putf (mo_149 2 rfl) rfl rfl rfl rfl
theorem r149_5 : Runs xs sl d 149 5 [some (.ref a0)] [] H r ↔ Runs xs sl d 149 6 [some (.ref a0)] [.ref a0] H r := run_step (mo_149 5 rfl) rfl
theorem r149_6 : Runs xs sl d 149 6 [l0] [s0] H r ↔ Runs xs sl d 149 7 [l0] [.int 3, s0] H r := run_step (mo_149 6 rfl) rfl
theorem r149_7 : Runs xs sl d 149 7 [l0] [.int u1, .ref b0] H r ↔ ∃ H1, hOw H b0 8 1 (.int u1) = some H1 ∧ Runs xs sl d 149 10 [l0] [] H1 r := run_putf (mo_149 7 rfl) rfl rfl rfl rfl
theorem r149_10 : Runs xs sl d 149 10 [some (.ref a0)] [] H r ↔ Runs xs sl d 149 11 [some (.ref a0)] [.ref a0] H r := run_step (mo_149 10 rfl) rfl
theorem r149_11 : Runs xs sl d 149 11 [l0] [s0] H r ↔ Runs xs sl d 149 12 [l0] [.int 0, s0] H r := run_step (mo_149 11 rfl) rfl
theorem r149_12 : Runs xs sl d 149 12 [l0] [.int u1, .ref b0] H r ↔ ∃ H1, hOw H b0 8 2 (.int u1) = some H1 ∧ Runs xs sl d 149 15 [l0] [] H1 r := run_putf (mo_149 12 rfl) rfl rfl rfl rfl
theorem r149_15 : Runs xs sl d 149 15 [some (.ref a0)] [] H r ↔ Runs xs sl d 149 16 [some (.ref a0)] [.ref a0] H r := run_step (mo_149 15 rfl) rfl
theorem r149_16 : Runs xs sl d 149 16 [l0] [s0] H r ↔ Runs xs sl d 149 17 [l0] [.int 0, s0] H r := run_step (mo_149 16 rfl) rfl
theorem r149_17 : Runs xs sl d 149 17 [l0] [.int u1, .ref b0] H r ↔ ∃ H1, hOw H b0 8 3 (.int u1) = some H1 ∧ Runs xs sl d 149 20 [l0] [] H1 r := run_putf (mo_149 17 rfl) rfl rfl rfl rfl
theorem r149_20 : Runs xs sl d 149 20 [some (.ref a0)] [] H r ↔ Runs xs sl d 149 21 [some (.ref a0)] [.ref a0] H r := run_step (mo_149 20 rfl) rfl
theorem r149_21 : Runs xs sl d 149 21 [l0] [s0] H r ↔ Runs xs sl d 149 22 [l0] [.int 0, s0] H r := run_step (mo_149 21 rfl) rfl
theorem r149_22 : Runs xs sl d 149 22 [l0] [.int u1, .ref b0] H r ↔ ∃ H1, hOw H b0 8 4 (.int u1) = some H1 ∧ Runs xs sl d 149 25 [l0] [] H1 r := run_putf (mo_149 22 rfl) rfl rfl rfl rfl
theorem r149_25 : Runs xs sl d 149 25 [some (.ref a0)] [] H r ↔ Runs xs sl d 149 26 [some (.ref a0)] [.ref a0] H r := run_step (mo_149 25 rfl) rfl
theorem r149_26 : Runs xs sl d 149 26 [l0] [.ref b0] H r ↔ ∃ v, hO H b0 8 7 = some v ∧ Runs xs sl d 149 29 [l0] [v] H r := run_getf (mo_149 26 rfl) rfl rfl
theorem r149_29 : Runs xs sl d 149 29 [l0] [s0] H r ↔ Runs xs sl d 149 30 [l0] [.int 0, s0] H r := run_step (mo_149 29 rfl) rfl
theorem r149_30 : Runs xs sl (d + 1) 149 30 [l0] [.int u1, .ref b0] H r ↔ ∃ v H1, Runs xs sl d 291 0 [some (.ref b0), some (.int u1), none, none] [] H (v, H1) ∧ Runs xs sl (d + 1) 149 33 [l0] (v.toList ++ []) H1 r := run_callS (M' := 291) (as := [.ref b0, .int u1]) (rest := []) (mo_149 30 rfl) rfl rfl (Nat.le_of_ble_eq_true rfl) (Nat.le_of_ble_eq_true rfl) rfl rfl
theorem r149_33 : Runs xs sl d 149 33 [some (.ref a0)] [] H r ↔ Runs xs sl d 149 34 [some (.ref a0)] [.ref a0] H r := run_step (mo_149 33 rfl) rfl
theorem r149_34 : Runs xs sl d 149 34 [l0] [.ref b0] H r ↔ ∃ v, hO H b0 8 8 = some v ∧ Runs xs sl d 149 37 [l0] [v] H r := run_getf (mo_149 34 rfl) rfl rfl
theorem r149_37 : Runs xs sl d 149 37 [l0] [s0] H r ↔ Runs xs sl d 149 38 [l0] [.int 0, s0] H r := run_step (mo_149 37 rfl) rfl
theorem r149_38 : Runs xs sl (d + 1) 149 38 [l0] [.int u1, .ref b0] H r ↔ ∃ v H1, Runs xs sl d 291 0 [some (.ref b0), some (.int u1), none, none] [] H (v, H1) ∧ Runs xs sl (d + 1) 149 41 [l0] (v.toList ++ []) H1 r := run_callS (M' := 291) (as := [.ref b0, .int u1]) (rest := []) (mo_149 38 rfl) rfl rfl (Nat.le_of_ble_eq_true rfl) (Nat.le_of_ble_eq_true rfl) rfl rfl
theorem r149_41 : Runs xs sl d 149 41 [l0] [] H r ↔ r = (none, H) := run_ret (mo_149 41 rfl) rfl
theorem mo_150 (pc : Nat) {i : Instr} (h : mt_150.lookup pc = some i) : mop 150 pc = some i := h
theorem r150_0 : Runs xs sl d 150 0 [some (.ref a0), l1] [] H r ↔ Runs xs sl d 150 1 [some (.ref a0), l1] [.ref a0] H r := run_step (mo_150 0 rfl) rfl
theorem r150_1 : Runs xs sl d 150 1 [l0, some (.ref a1)] [s0] H r ↔ Runs xs sl d 150 2 [l0, some (.ref a1)] [.ref a1, s0] H r := run_step (mo_150 1 rfl) rfl
theorem r150_1n : Runs xs sl d 150 1 [l0, some .null] [s0] H r ↔ Runs xs sl d 150 2 [l0, some .null] [.null, s0] H r := run_step (mo_150 1 rfl) rfl
theorem r150_2 : Runs xs sl d 150 2 [l0, l1] [.ref b1, s0] H r ↔ ∃ v, hO H b1 8 0 = some v ∧ Runs xs sl d 150 5 [l0, l1] [v, s0] H r := run_getf (mo_150 2 rfl) rfl rfl
theorem r150_5 : Runs xs sl d 150 5 [l0, l1] [.int u1, .ref b0] H r ↔ ∃ H1, hOw H b0 8 0 (.int u1) = some H1 ∧ Runs xs sl d 150 8 [l0, l1] [] H1 r := run_putf (mo_150 5 rfl) rfl rfl rfl rfl
theorem r150_8 : Runs xs sl d 150 8 [some (.ref a0), l1] [] H r ↔ Runs xs sl d 150 9 [some (.ref a0), l1] [.ref a0] H r := run_step (mo_150 8 rfl) rfl
theorem r150_9 : Runs xs sl d 150 9 [l0, some (.ref a1)] [s0] H r ↔ Runs xs sl d 150 10 [l0, some (.ref a1)] [.ref a1, s0] H r := run_step (mo_150 9 rfl) rfl
theorem r150_9n : Runs xs sl d 150 9 [l0, some .null] [s0] H r ↔ Runs xs sl d 150 10 [l0, some .null] [.null, s0] H r := run_step (mo_150 9 rfl) rfl
theorem r150_10 : Runs xs sl d 150 10 [l0, l1] [.ref b1, s0] H r ↔ ∃ v, hO H b1 8 1 = some v ∧ Runs xs sl d 150 13 [l0, l1] [v, s0] H r := run_getf (mo_150 10 rfl) rfl rfl
theorem r150_13 : Runs xs sl d 150 13 [l0, l1] [.int u1, .ref b0] H r ↔ ∃ H1, hOw H b0 8 1 (.int u1) = some H1 ∧ Runs xs sl d 150 16 [l0, l1] [] H1 r := run_putf (mo_150 13 rfl) rfl rfl rfl rfl
theorem r150_16 : Runs xs sl d 150 16 [some (.ref a0), l1] [] H r ↔ Runs xs sl d 150 17 [some (.ref a0), l1] [.ref a0] H r := run_step (mo_150 16 rfl) rfl
theorem r150_17 : Runs xs sl d 150 17 [l0, some (.ref a1)] [s0] H r ↔ Runs xs sl d 150 18 [l0, some (.ref a1)] [.ref a1, s0] H r := run_step (mo_150 17 rfl) rfl
theorem r150_17n : Runs xs sl d 150 17 [l0, some .null] [s0] H r ↔ Runs xs sl d 150 18 [l0, some .null] [.null, s0] H r := run_step (mo_150 17 rfl) rfl
theorem r150_18 : Runs xs sl d 150 18 [l0, l1] [.ref b1, s0] H r ↔ ∃ v, hO H b1 8 2 = some v ∧ Runs xs sl d 150 21 [l0, l1] [v, s0] H r := run_getf (mo_150 18 rfl) rfl rfl
theorem r150_21 : Runs xs sl d 150 21 [l0, l1] [.int u1, .ref b0] H r ↔ ∃ H1, hOw H b0 8 2 (.int u1) = some H1 ∧ Runs xs sl d 150 24 [l0, l1] [] H1 r := run_putf (mo_150 21 rfl) rfl rfl rfl rfl
theorem r150_24 : Runs xs sl d 150 24 [some (.ref a0), l1] [] H r ↔ Runs xs sl d 150 25 [some (.ref a0), l1] [.ref a0] H r := run_step (mo_150 24 rfl) rfl
theorem r150_25 : Runs xs sl d 150 25 [l0, some (.ref a1)] [s0] H r ↔ Runs xs sl d 150 26 [l0, some (.ref a1)] [.ref a1, s0] H r := run_step (mo_150 25 rfl) rfl
theorem r150_25n : Runs xs sl d 150 25 [l0, some .null] [s0] H r ↔ Runs xs sl d 150 26 [l0, some .null] [.null, s0] H r := run_step (mo_150 25 rfl) rfl
theorem r150_26 : Runs xs sl d 150 26 [l0, l1] [.ref b1, s0] H r ↔ ∃ v, hO H b1 8 3 = some v ∧ Runs xs sl d 150 29 [l0, l1] [v, s0] H r := run_getf (mo_150 26 rfl) rfl rfl
theorem r150_29 : Runs xs sl d 150 29 [l0, l1] [.int u1, .ref b0] H r ↔ ∃ H1, hOw H b0 8 3 (.int u1) = some H1 ∧ Runs xs sl d 150 32 [l0, l1] [] H1 r := run_putf (mo_150 29 rfl) rfl rfl rfl rfl
theorem r150_32 : Runs xs sl d 150 32 [some (.ref a0), l1] [] H r ↔ Runs xs sl d 150 33 [some (.ref a0), l1] [.ref a0] H r := run_step (mo_150 32 rfl) rfl
theorem r150_33 : Runs xs sl d 150 33 [l0, some (.ref a1)] [s0] H r ↔ Runs xs sl d 150 34 [l0, some (.ref a1)] [.ref a1, s0] H r := run_step (mo_150 33 rfl) rfl
theorem r150_33n : Runs xs sl d 150 33 [l0, some .null] [s0] H r ↔ Runs xs sl d 150 34 [l0, some .null] [.null, s0] H r := run_step (mo_150 33 rfl) rfl
theorem r150_34 : Runs xs sl d 150 34 [l0, l1] [.ref b1, s0] H r ↔ ∃ v, hO H b1 8 4 = some v ∧ Runs xs sl d 150 37 [l0, l1] [v, s0] H r := run_getf (mo_150 34 rfl) rfl rfl
theorem r150_37 : Runs xs sl d 150 37 [l0, l1] [.int u1, .ref b0] H r ↔ ∃ H1, hOw H b0 8 4 (.int u1) = some H1 ∧ Runs xs sl d 150 40 [l0, l1] [] H1 r := run_putf (mo_150 37 rfl) rfl rfl rfl rfl
theorem r150_40 : Runs xs sl d 150 40 [l0, some (.ref a1)] [] H r ↔ Runs xs sl d 150 41 [l0, some (.ref a1)] [.ref a1] H r := run_step (mo_150 40 rfl) rfl
theorem r150_40n : Runs xs sl d 150 40 [l0, some .null] [] H r ↔ Runs xs sl d 150 41 [l0, some .null] [.null] H r := run_step (mo_150 40 rfl) rfl
theorem r150_41 : Runs xs sl d 150 41 [l0, l1] [.ref b0] H r ↔ ∃ v, hO H b0 8 5 = some v ∧ Runs xs sl d 150 44 [l0, l1] [v] H r := run_getf (mo_150 41 rfl) rfl rfl
theorem r150_44 : Runs xs sl d 150 44 [l0, l1] [s0] H r ↔ Runs xs sl d 150 45 [l0, l1] [.int 0, s0] H r := run_step (mo_150 44 rfl) rfl
theorem r150_45 : Runs xs sl d 150 45 [some (.ref a0), l1] [s1, s0] H r ↔ Runs xs sl d 150 46 [some (.ref a0), l1] [.ref a0, s1, s0] H r := run_step (mo_150 45 rfl) rfl
theorem r150_46 : Runs xs sl d 150 46 [l0, l1] [.ref b2, s1, s0] H r ↔ ∃ v, hO H b2 8 5 = some v ∧ Runs xs sl d 150 49 [l0, l1] [v, s1, s0] H r := run_getf (mo_150 46 rfl) rfl rfl
theorem r150_49 : Runs xs sl d 150 49 [l0, l1] [s2, s1, s0] H r ↔ Runs xs sl d 150 50 [l0, l1] [.int 0, s2, s1, s0] H r := run_step (mo_150 49 rfl) rfl
theorem r150_50 : Runs xs sl d 150 50 [l0, l1] [s3, s2, s1, s0] H r ↔ Runs xs sl d 150 52 [l0, l1] [.int 8, s3, s2, s1, s0] H r := run_step (mo_150 50 rfl) rfl
theorem r150_52 : Runs xs sl (d + 1) 150 52 [l0, l1] [.int u4, .int u3, .ref b2, .int u1, .ref b0] H r ↔ ∃ H1, hCp H b0 b2 u1 u3 u4 = some H1 ∧ Runs xs sl (d + 1) 150 55 [l0, l1] [] H1 r := run_copy (mo_150 52 rfl) rfl (Nat.le_of_ble_eq_true rfl) rfl
theorem r150_55 : Runs xs sl d 150 55 [l0, some (.ref a1)] [] H r ↔ Runs xs sl d 150 56 [l0, some (.ref a1)] [.ref a1] H r := run_step (mo_150 55 rfl) rfl
theorem r150_55n : Runs xs sl d 150 55 [l0, some .null] [] H r ↔ Runs xs sl d 150 56 [l0, some .null] [.null] H r := run_step (mo_150 55 rfl) rfl
theorem r150_56 : Runs xs sl d 150 56 [l0, l1] [.ref b0] H r ↔ ∃ v, hO H b0 8 6 = some v ∧ Runs xs sl d 150 59 [l0, l1] [v] H r := run_getf (mo_150 56 rfl) rfl rfl
theorem r150_59 : Runs xs sl d 150 59 [l0, l1] [s0] H r ↔ Runs xs sl d 150 60 [l0, l1] [.int 0, s0] H r := run_step (mo_150 59 rfl) rfl
theorem r150_60 : Runs xs sl d 150 60 [some (.ref a0), l1] [s1, s0] H r ↔ Runs xs sl d 150 61 [some (.ref a0), l1] [.ref a0, s1, s0] H r := run_step (mo_150 60 rfl) rfl
theorem r150_61 : Runs xs sl d 150 61 [l0, l1] [.ref b2, s1, s0] H r ↔ ∃ v, hO H b2 8 6 = some v ∧ Runs xs sl d 150 64 [l0, l1] [v, s1, s0] H r := run_getf (mo_150 61 rfl) rfl rfl
theorem r150_64 : Runs xs sl d 150 64 [l0, l1] [s2, s1, s0] H r ↔ Runs xs sl d 150 65 [l0, l1] [.int 0, s2, s1, s0] H r := run_step (mo_150 64 rfl) rfl
theorem r150_65 : Runs xs sl d 150 65 [l0, l1] [s3, s2, s1, s0] H r ↔ Runs xs sl d 150 67 [l0, l1] [.int 8, s3, s2, s1, s0] H r := run_step (mo_150 65 rfl) rfl
theorem r150_67 : Runs xs sl (d + 1) 150 67 [l0, l1] [.int u4, .int u3, .ref b2, .int u1, .ref b0] H r ↔ ∃ H1, hCp H b0 b2 u1 u3 u4 = some H1 ∧ Runs xs sl (d + 1) 150 70 [l0, l1] [] H1 r := run_copy (mo_150 67 rfl) rfl (Nat.le_of_ble_eq_true rfl) rfl
theorem r150_70 : Runs xs sl d 150 70 [l0, some (.ref a1)] [] H r ↔ Runs xs sl d 150 71 [l0, some (.ref a1)] [.ref a1] H r := run_step (mo_150 70 rfl) rfl
theorem r150_70n : Runs xs sl d 150 70 [l0, some .null] [] H r ↔ Runs xs sl d 150 71 [l0, some .null] [.null] H r := run_step (mo_150 70 rfl) rfl
theorem r150_71 : Runs xs sl d 150 71 [l0, l1] [.ref b0] H r ↔ ∃ v, hO H b0 8 7 = some v ∧ Runs xs sl d 150 74 [l0, l1] [v] H r := run_getf (mo_150 71 rfl) rfl rfl
theorem r150_74 : Runs xs sl d 150 74 [l0, l1] [s0] H r ↔ Runs xs sl d 150 75 [l0, l1] [.int 0, s0] H r := run_step (mo_150 74 rfl) rfl
theorem r150_75 : Runs xs sl d 150 75 [some (.ref a0), l1] [s1, s0] H r ↔ Runs xs sl d 150 76 [some (.ref a0), l1] [.ref a0, s1, s0] H r := run_step (mo_150 75 rfl) rfl
theorem r150_76 : Runs xs sl d 150 76 [l0, l1] [.ref b2, s1, s0] H r ↔ ∃ v, hO H b2 8 7 = some v ∧ Runs xs sl d 150 79 [l0, l1] [v, s1, s0] H r := run_getf (mo_150 76 rfl) rfl rfl
theorem r150_79 : Runs xs sl d 150 79 [l0, l1] [s2, s1, s0] H r ↔ Runs xs sl d 150 80 [l0, l1] [.int 0, s2, s1, s0] H r := run_step (mo_150 79 rfl) rfl
theorem r150_80 : Runs xs sl d 150 80 [l0, l1] [s3, s2, s1, s0] H r ↔ Runs xs sl d 150 82 [l0, l1] [.int 8, s3, s2, s1, s0] H r := run_step (mo_150 80 rfl) rfl
theorem r150_82 : Runs xs sl (d + 1) 150 82 [l0, l1] [.int u4, .int u3, .ref b2, .int u1, .ref b0] H r ↔ ∃ H1, hCp H b0 b2 u1 u3 u4 = some H1 ∧ Runs xs sl (d + 1) 150 85 [l0, l1] [] H1 r := run_copy (mo_150 82 rfl) rfl (Nat.le_of_ble_eq_true rfl) rfl
theorem r150_85 : Runs xs sl d 150 85 [l0, some (.ref a1)] [] H r ↔ Runs xs sl d 150 86 [l0, some (.ref a1)] [.ref a1] H r := run_step (mo_150 85 rfl) rfl
theorem r150_85n : Runs xs sl d 150 85 [l0, some .null] [] H r ↔ Runs xs sl d 150 86 [l0, some .null] [.null] H r := run_step (mo_150 85 rfl) rfl
theorem r150_86 : Runs xs sl d 150 86 [l0, l1] [.ref b0] H r ↔ ∃ v, hO H b0 8 8 = some v ∧ Runs xs sl d 150 89 [l0, l1] [v] H r := run_getf (mo_150 86 rfl) rfl rfl
theorem r150_89 : Runs xs sl d 150 89 [l0, l1] [s0] H r ↔ Runs xs sl d 150 90 [l0, l1] [.int 0, s0] H r := run_step (mo_150 89 rfl) rfl
theorem r150_90 : Runs xs sl d 150 90 [some (.ref a0), l1] [s1, s0] H r ↔ Runs xs sl d 150 91 [some (.ref a0), l1] [.ref a0, s1, s0] H r := run_step (mo_150 90 rfl) rfl
theorem r150_91 : Runs xs sl d 150 91 [l0, l1] [.ref b2, s1, s0] H r ↔ ∃ v, hO H b2 8 8 = some v ∧ Runs xs sl d 150 94 [l0, l1] [v, s1, s0] H r := run_getf (mo_150 91 rfl) rfl rfl
theorem r150_94 : Runs xs sl d 150 94 [l0, l1] [s2, s1, s0] H r ↔ Runs xs sl d 150 95 [l0, l1] [.int 0, s2, s1, s0] H r := run_step (mo_150 94 rfl) rfl
theorem r150_95 : Runs xs sl d 150 95 [l0, l1] [s3, s2, s1, s0] H r ↔ Runs xs sl d 150 97 [l0, l1] [.int 48, s3, s2, s1, s0] H r := run_step (mo_150 95 rfl) rfl
theorem r150_97 : Runs xs sl (d + 1) 150 97 [l0, l1] [.int u4, .int u3, .ref b2, .int u1, .ref b0] H r ↔ ∃ H1, hCp H b0 b2 u1 u3 u4 = some H1 ∧ Runs xs sl (d + 1) 150 100 [l0, l1] [] H1 r := run_copy (mo_150 97 rfl) rfl (Nat.le_of_ble_eq_true rfl) rfl
theorem r150_100 : Runs xs sl d 150 100 [l0, some (.ref a1)] [] H r ↔ Runs xs sl d 150 101 [l0, some (.ref a1)] [.ref a1] H r := run_step (mo_150 100 rfl) rfl
theorem r150_100n : Runs xs sl d 150 100 [l0, some .null] [] H r ↔ Runs xs sl d 150 101 [l0, some .null] [.null] H r := run_step (mo_150 100 rfl) rfl
theorem r150_101 : Runs xs sl d 150 101 [l0, l1] [.ref b0] H r ↔ ∃ v, hO H b0 8 9 = some v ∧ Runs xs sl d 150 104 [l0, l1] [v] H r := run_getf (mo_150 101 rfl) rfl rfl
theorem r150_104 : Runs xs sl d 150 104 [l0, l1] [s0] H r ↔ Runs xs sl d 150 105 [l0, l1] [.int 0, s0] H r := run_step (mo_150 104 rfl) rfl
theorem r150_105 : Runs xs sl d 150 105 [some (.ref a0), l1] [s1, s0] H r ↔ Runs xs sl d 150 106 [some (.ref a0), l1] [.ref a0, s1, s0] H r := run_step (mo_150 105 rfl) rfl
theorem r150_106 : Runs xs sl d 150 106 [l0, l1] [.ref b2, s1, s0] H r ↔ ∃ v, hO H b2 8 9 = some v ∧ Runs xs sl d 150 109 [l0, l1] [v, s1, s0] H r := run_getf (mo_150 106 rfl) rfl rfl
theorem r150_109 : Runs xs sl d 150 109 [l0, l1] [s2, s1, s0] H r ↔ Runs xs sl d 150 110 [l0, l1] [.int 0, s2, s1, s0] H r := run_step (mo_150 109 rfl) rfl
theorem r150_110 : Runs xs sl d 150 110 [l0, l1] [s3, s2, s1, s0] H r ↔ Runs xs sl d 150 112 [l0, l1] [.int 36, s3, s2, s1, s0] H r := run_step (mo_150 110 rfl) rfl
theorem r150_112 : Runs xs sl (d + 1) 150 112 [l0, l1] [.int u4, .int u3, .ref b2, .int u1, .ref b0] H r ↔ ∃ H1, hCp H b0 b2 u1 u3 u4 = some H1 ∧ Runs xs sl (d + 1) 150 115 [l0, l1] [] H1 r := run_copy (mo_150 112 rfl) rfl (Nat.le_of_ble_eq_true rfl) rfl
theorem r150_115 : Runs xs sl d 150 115 [l0, some (.ref a1)] [] H r ↔ Runs xs sl d 150 116 [l0, some (.ref a1)] [.ref a1] H r := run_step (mo_150 115 rfl) rfl
theorem r150_115n : Runs xs sl d 150 115 [l0, some .null] [] H r ↔ Runs xs sl d 150 116 [l0, some .null] [.null] H r := run_step (mo_150 115 rfl) rfl
theorem r150_116 : Runs xs sl d 150 116 [l0, l1] [.ref b0] H r ↔ ∃ v, hO H b0 8 10 = some v ∧ Runs xs sl d 150 119 [l0, l1] [v] H r := run_getf (mo_150 116 rfl) rfl rfl
theorem r150_119 : Runs xs sl d 150 119 [l0, l1] [s0] H r ↔ Runs xs sl d 150 120 [l0, l1] [.int 0, s0] H r := run_step (mo_150 119 rfl) rfl
theorem r150_120 : Runs xs sl d 150 120 [some (.ref a0), l1] [s1, s0] H r ↔ Runs xs sl d 150 121 [some (.ref a0), l1] [.ref a0, s1, s0] H r := run_step (mo_150 120 rfl) rfl
theorem r150_121 : Runs xs sl d 150 121 [l0, l1] [.ref b2, s1, s0] H r ↔ ∃ v, hO H b2 8 10 = some v ∧ Runs xs sl d 150 124 [l0, l1] [v, s1, s0] H r := run_getf (mo_150 121 rfl) rfl rfl
theorem r150_124 : Runs xs sl d 150 124 [l0, l1] [s2, s1, s0] H r ↔ Runs xs sl d 150 125 [l0, l1] [.int 0, s2, s1, s0] H r := run_step (mo_150 124 rfl) rfl
theorem r150_125 : Runs xs sl d 150 125 [l0, l1] [s3, s2, s1, s0] H r ↔ Runs xs sl d 150 127 [l0, l1] [.int 8, s3, s2, s1, s0] H r := run_step (mo_150 125 rfl) rfl
theorem r150_127 : Runs xs sl (d + 1) 150 127 [l0, l1] [.int u4, .int u3, .ref b2, .int u1, .ref b0] H r ↔ ∃ H1, hCp H b0 b2 u1 u3 u4 = some H1 ∧ Runs xs sl (d + 1) 150 130 [l0, l1] [] H1 r := run_copy (mo_150 127 rfl) rfl (Nat.le_of_ble_eq_true rfl) rfl
theorem r150_130 : Runs xs sl d 150 130 [l0, some (.ref a1)] [] H r ↔ Runs xs sl d 150 131 [l0, some (.ref a1)] [.ref a1] H r := run_step (mo_150 130 rfl) rfl
theorem r150_130n : Runs xs sl d 150 130 [l0, some .null] [] H r ↔ Runs xs sl d 150 131 [l0, some .null] [.null] H r := run_step (mo_150 130 rfl) rfl
theorem r150_131 : Runs xs sl d 150 131 [l0, l1] [.ref b0] H r ↔ ∃ v, hO H b0 8 11 = some v ∧ Runs xs sl d 150 134 [l0, l1] [v] H r := run_getf (mo_150 131 rfl) rfl rfl
theorem r150_134 : Runs xs sl d 150 134 [l0, l1] [s0] H r ↔ Runs xs sl d 150 135 [l0, l1] [.int 0, s0] H r := run_step (mo_150 134 rfl) rfl
theorem r150_135 : Runs xs sl d 150 135 [some (.ref a0), l1] [s1, s0] H r ↔ Runs xs sl d 150 136 [some (.ref a0), l1] [.ref a0, s1, s0] H r := run_step (mo_150 135 rfl) rfl
theorem r150_136 : Runs xs sl d 150 136 [l0, l1] [.ref b2, s1, s0] H r ↔ ∃ v, hO H b2 8 11 = some v ∧ Runs xs sl d 150 139 [l0, l1] [v, s1, s0] H r := run_getf (mo_150 136 rfl) rfl rfl
theorem r150_139 : Runs xs sl d 150 139 [l0, l1] [s2, s1, s0] H r ↔ Runs xs sl d 150 140 [l0, l1] [.int 0, s2, s1, s0] H r := run_step (mo_150 139 rfl) rfl
theorem r150_140 : Runs xs sl d 150 140 [l0, l1] [s3, s2, s1, s0] H r ↔ Runs xs sl d 150 142 [l0, l1] [.int 8, s3, s2, s1, s0] H r := run_step (mo_150 140 rfl) rfl
theorem r150_142 : Runs xs sl (d + 1) 150 142 [l0, l1] [.int u4, .int u3, .ref b2, .int u1, .ref b0] H r ↔ ∃ H1, hCp H b0 b2 u1 u3 u4 = some H1 ∧ Runs xs sl (d + 1) 150 145 [l0, l1] [] H1 r := run_copy (mo_150 142 rfl) rfl (Nat.le_of_ble_eq_true rfl) rfl
theorem r150_145 : Runs xs sl d 150 145 [l0, l1] [] H r ↔ r = (none, H) := run_ret (mo_150 145 rfl) rfl
theorem mo_151 (pc : Nat) {i : Instr} (h : mt_151.lookup pc = some i) : mop 151 pc = some i := h
theorem r151_0 : Runs xs sl d 151 0 [l0, some (.int i1)] [] H r ↔ Runs xs sl d 151 1 [l0, some (.int i1)] [.int i1] H r := run_step (mo_151 0 rfl) rfl
theorem r151_1_c0 : Runs xs sl d 151 1 [l0, l1] [.int 0] H r ↔ Runs xs sl d 151 36 [l0, l1] [] H r := run_step (mo_151 1 rfl) rfl
theorem r151_1_c1 : Runs xs sl d 151 1 [l0, l1] [.int 1] H r ↔ Runs xs sl d 151 41 [l0, l1] [] H r := run_step (mo_151 1 rfl) rfl
theorem r151_1_c2 : Runs xs sl d 151 1 [l0, l1] [.int 2] H r ↔ Runs xs sl d 151 46 [l0, l1] [] H r := run_step (mo_151 1 rfl) rfl
theorem r151_1_c3 : Runs xs sl d 151 1 [l0, l1] [.int 3] H r ↔ Runs xs sl d 151 51 [l0, l1] [] H r := run_step (mo_151 1 rfl) rfl
theorem r151_1_c4 : Runs xs sl d 151 1 [l0, l1] [.int 4] H r ↔ Runs xs sl d 151 56 [l0, l1] [] H r := run_step (mo_151 1 rfl) rfl
theorem r151_1_d (h : u0.toInt < 0 ∨ 4 < u0.toInt) : Runs xs sl d 151 1 [l0, l1] [.int u0] H r ↔ Runs xs sl d 151 61 [l0, l1] [] H r := run_step (mo_151 1 rfl) (by show mtsw 60 0 4 #[35, 40, 45, 50, 55] 1 [l0, l1] [.int u0] H = _; simp only [mtsw, mswo]; rw [if_pos h]; rfl)
theorem r151_36 : Runs xs sl d 151 36 [some (.ref a0), l1] [] H r ↔ Runs xs sl d 151 37 [some (.ref a0), l1] [.ref a0] H r := run_step (mo_151 36 rfl) rfl
theorem r151_37 : Runs xs sl d 151 37 [l0, l1] [.ref b0] H r ↔ ∃ v, hO H b0 8 0 = some v ∧ Runs xs sl d 151 40 [l0, l1] [v] H r := run_getf (mo_151 37 rfl) rfl rfl
theorem r151_40 : Runs xs sl d 151 40 [l0, l1] [.int u0] H r ↔ r = (some (.int u0), H) := run_ret (mo_151 40 rfl) rfl
theorem r151_41 : Runs xs sl d 151 41 [some (.ref a0), l1] [] H r ↔ Runs xs sl d 151 42 [some (.ref a0), l1] [.ref a0] H r := run_step (mo_151 41 rfl) rfl
theorem r151_42 : Runs xs sl d 151 42 [l0, l1] [.ref b0] H r ↔ ∃ v, hO H b0 8 1 = some v ∧ Runs xs sl d 151 45 [l0, l1] [v] H r := run_getf (mo_151 42 rfl) rfl rfl
theorem r151_45 : Runs xs sl d 151 45 [l0, l1] [.int u0] H r ↔ r = (some (.int u0), H) := run_ret (mo_151 45 rfl) rfl
theorem r151_46 : Runs xs sl d 151 46 [some (.ref a0), l1] [] H r ↔ Runs xs sl d 151 47 [some (.ref a0), l1] [.ref a0] H r := run_step (mo_151 46 rfl) rfl
theorem r151_47 : Runs xs sl d 151 47 [l0, l1] [.ref b0] H r ↔ ∃ v, hO H b0 8 2 = some v ∧ Runs xs sl d 151 50 [l0, l1] [v] H r := run_getf (mo_151 47 rfl) rfl rfl
theorem r151_50 : Runs xs sl d 151 50 [l0, l1] [.int u0] H r ↔ r = (some (.int u0), H) := run_ret (mo_151 50 rfl) rfl
theorem r151_51 : Runs xs sl d 151 51 [some (.ref a0), l1] [] H r ↔ Runs xs sl d 151 52 [some (.ref a0), l1] [.ref a0] H r := run_step (mo_151 51 rfl) rfl
theorem r151_52 : Runs xs sl d 151 52 [l0, l1] [.ref b0] H r ↔ ∃ v, hO H b0 8 3 = some v ∧ Runs xs sl d 151 55 [l0, l1] [v] H r := run_getf (mo_151 52 rfl) rfl rfl
theorem r151_55 : Runs xs sl d 151 55 [l0, l1] [.int u0] H r ↔ r = (some (.int u0), H) := run_ret (mo_151 55 rfl) rfl
theorem r151_56 : Runs xs sl d 151 56 [some (.ref a0), l1] [] H r ↔ Runs xs sl d 151 57 [some (.ref a0), l1] [.ref a0] H r := run_step (mo_151 56 rfl) rfl
theorem r151_57 : Runs xs sl d 151 57 [l0, l1] [.ref b0] H r ↔ ∃ v, hO H b0 8 4 = some v ∧ Runs xs sl d 151 60 [l0, l1] [v] H r := run_getf (mo_151 57 rfl) rfl rfl
theorem r151_60 : Runs xs sl d 151 60 [l0, l1] [.int u0] H r ↔ r = (some (.int u0), H) := run_ret (mo_151 60 rfl) rfl
theorem r151_61 : Runs xs sl d 151 61 [l0, l1] [] H r ↔ Runs xs sl d 151 62 [l0, l1] [.int (-1)] H r := run_step (mo_151 61 rfl) rfl
theorem r151_62 : Runs xs sl d 151 62 [l0, l1] [.int u0] H r ↔ r = (some (.int u0), H) := run_ret (mo_151 62 rfl) rfl
theorem mo_152 (pc : Nat) {i : Instr} (h : mt_152.lookup pc = some i) : mop 152 pc = some i := h
theorem r152_0 : Runs xs sl d 152 0 [l0, some (.int i1), l2] [] H r ↔ Runs xs sl d 152 1 [l0, some (.int i1), l2] [.int i1] H r := run_step (mo_152 0 rfl) rfl
theorem r152_1 : Runs xs sl d 152 1 [l0, l1, l2] [s0] H r ↔ Runs xs sl d 152 2 [l0, l1, l2] [.int 1, s0] H r := run_step (mo_152 1 rfl) rfl
theorem r152_2 : Runs xs sl d 152 2 [l0, l1, l2] [.int u1, .int u0] H r ↔ if ¬ u0 = u1 then Runs xs sl d 152 12 [l0, l1, l2] [] H r else Runs xs sl d 152 5 [l0, l1, l2] [] H r := run_if (mo_152 2 rfl) rfl
theorem r152_5 : Runs xs sl d 152 5 [some (.ref a0), l1, l2] [] H r ↔ Runs xs sl d 152 6 [some (.ref a0), l1, l2] [.ref a0] H r := run_step (mo_152 5 rfl) rfl
theorem r152_6 : Runs xs sl d 152 6 [l0, l1, l2] [.ref b0] H r ↔ ∃ v, hO H b0 8 5 = some v ∧ Runs xs sl d 152 9 [l0, l1, l2] [v] H r := run_getf (mo_152 6 rfl) rfl rfl
theorem r152_9 : Runs xs sl d 152 9 [l0, l1, some (.int i2)] [s0] H r ↔ Runs xs sl d 152 10 [l0, l1, some (.int i2)] [.int i2, s0] H r := run_step (mo_152 9 rfl) rfl
theorem r152_10 : Runs xs sl d 152 10 [l0, l1, l2] [.int u1, .ref b0] H r ↔ ∃ v, hA H b0 0 u1 = some v ∧ Runs xs sl d 152 11 [l0, l1, l2] [.int v] H r := run_iald (mo_152 10 rfl) rfl
theorem r152_11 : Runs xs sl d 152 11 [l0, l1, l2] [.int u0] H r ↔ r = (some (.int u0), H) := run_ret (mo_152 11 rfl) rfl
theorem r152_12 : Runs xs sl d 152 12 [l0, some (.int i1), l2] [] H r ↔ Runs xs sl d 152 13 [l0, some (.int i1), l2] [.int i1] H r := run_step (mo_152 12 rfl) rfl
theorem r152_13 : Runs xs sl d 152 13 [l0, l1, l2] [s0] H r ↔ Runs xs sl d 152 14 [l0, l1, l2] [.int 2, s0] H r := run_step (mo_152 13 rfl) rfl
theorem r152_14 : Runs xs sl d 152 14 [l0, l1, l2] [.int u1, .int u0] H r ↔ if ¬ u0 = u1 then Runs xs sl d 152 26 [l0, l1, l2] [] H r else Runs xs sl d 152 17 [l0, l1, l2] [] H r := run_if (mo_152 14 rfl) rfl
theorem r152_17 : Runs xs sl d 152 17 [some (.ref a0), l1, l2] [] H r ↔ Runs xs sl d 152 18 [some (.ref a0), l1, l2] [.ref a0] H r := run_step (mo_152 17 rfl) rfl
theorem r152_18 : Runs xs sl d 152 18 [l0, l1, l2] [.ref b0] H r ↔ ∃ v, hO H b0 8 6 = some v ∧ Runs xs sl d 152 21 [l0, l1, l2] [v] H r := run_getf (mo_152 18 rfl) rfl rfl
theorem r152_21 : Runs xs sl d 152 21 [l0, l1, some (.int i2)] [s0] H r ↔ Runs xs sl d 152 22 [l0, l1, some (.int i2)] [.int i2, s0] H r := run_step (mo_152 21 rfl) rfl
theorem r152_22 : Runs xs sl d 152 22 [l0, l1, l2] [.int u1, .ref b0] H r ↔ ∃ v, hA H b0 0 u1 = some v ∧ Runs xs sl d 152 23 [l0, l1, l2] [.int v] H r := run_iald (mo_152 22 rfl) rfl
theorem r152_23 : Runs xs sl d 152 23 [l0, l1, l2] [s0] H r ↔ Runs xs sl d 152 32 [l0, l1, l2] [s0] H r := run_step (mo_152 23 rfl) rfl
theorem r152_26 : Runs xs sl d 152 26 [some (.ref a0), l1, l2] [] H r ↔ Runs xs sl d 152 27 [some (.ref a0), l1, l2] [.ref a0] H r := run_step (mo_152 26 rfl) rfl
theorem r152_27 : Runs xs sl d 152 27 [l0, l1, l2] [.ref b0] H r ↔ ∃ v, hO H b0 8 7 = some v ∧ Runs xs sl d 152 30 [l0, l1, l2] [v] H r := run_getf (mo_152 27 rfl) rfl rfl
theorem r152_30 : Runs xs sl d 152 30 [l0, l1, some (.int i2)] [s0] H r ↔ Runs xs sl d 152 31 [l0, l1, some (.int i2)] [.int i2, s0] H r := run_step (mo_152 30 rfl) rfl
theorem r152_31 : Runs xs sl d 152 31 [l0, l1, l2] [.int u1, .ref b0] H r ↔ ∃ v, hA H b0 0 u1 = some v ∧ Runs xs sl d 152 32 [l0, l1, l2] [.int v] H r := run_iald (mo_152 31 rfl) rfl
theorem r152_32 : Runs xs sl d 152 32 [l0, l1, l2] [.int u0] H r ↔ r = (some (.int u0), H) := run_ret (mo_152 32 rfl) rfl
theorem mo_153 (pc : Nat) {i : Instr} (h : mt_153.lookup pc = some i) : mop 153 pc = some i := h
theorem r153_0 : Runs xs sl d 153 0 [l0, some (.int i1)] [] H r ↔ Runs xs sl d 153 1 [l0, some (.int i1)] [.int i1] H r := run_step (mo_153 0 rfl) rfl
theorem r153_1 : Runs xs sl d 153 1 [l0, l1] [.int u0] H r ↔ if u0 < 0 then Runs xs sl d 153 16 [l0, l1] [] H r else Runs xs sl d 153 4 [l0, l1] [] H r := run_if (mo_153 1 rfl) rfl
theorem r153_4 : Runs xs sl d 153 4 [l0, some (.int i1)] [] H r ↔ Runs xs sl d 153 5 [l0, some (.int i1)] [.int i1] H r := run_step (mo_153 4 rfl) rfl
theorem r153_5 : Runs xs sl d 153 5 [some (.ref a0), l1] [s0] H r ↔ Runs xs sl d 153 6 [some (.ref a0), l1] [.ref a0, s0] H r := run_step (mo_153 5 rfl) rfl
theorem r153_6 : Runs xs sl d 153 6 [l0, l1] [.ref b1, s0] H r ↔ ∃ v, hO H b1 8 2 = some v ∧ Runs xs sl d 153 9 [l0, l1] [v, s0] H r := run_getf (mo_153 6 rfl) rfl rfl
theorem r153_9 : Runs xs sl d 153 9 [l0, l1] [.int u1, .int u0] H r ↔ if u1 ≤ u0 then Runs xs sl d 153 16 [l0, l1] [] H r else Runs xs sl d 153 12 [l0, l1] [] H r := run_if (mo_153 9 rfl) rfl
theorem r153_12 : Runs xs sl d 153 12 [l0, l1] [] H r ↔ Runs xs sl d 153 13 [l0, l1] [.int 1] H r := run_step (mo_153 12 rfl) rfl
theorem r153_13 : Runs xs sl d 153 13 [l0, l1] [s0] H r ↔ Runs xs sl d 153 17 [l0, l1] [s0] H r := run_step (mo_153 13 rfl) rfl
theorem r153_16 : Runs xs sl d 153 16 [l0, l1] [] H r ↔ Runs xs sl d 153 17 [l0, l1] [.int 0] H r := run_step (mo_153 16 rfl) rfl
theorem r153_17 (h : u0 = 0 ∨ u0 = 1) : Runs xs sl d 153 17 [l0, l1] [.int u0] H r ↔ r = (some (.int u0), H) := run_ret (mo_153 17 rfl) (if_pos h)
theorem mo_154 (pc : Nat) {i : Instr} (h : mt_154.lookup pc = some i) : mop 154 pc = some i := h
theorem r154_0 : Runs xs sl d 154 0 [l0, some (.int i1)] [] H r ↔ Runs xs sl d 154 1 [l0, some (.int i1)] [.int i1] H r := run_step (mo_154 0 rfl) rfl
theorem r154_1 : Runs xs sl d 154 1 [l0, l1] [.int u0] H r ↔ if u0 < 0 then Runs xs sl d 154 16 [l0, l1] [] H r else Runs xs sl d 154 4 [l0, l1] [] H r := run_if (mo_154 1 rfl) rfl
theorem r154_4 : Runs xs sl d 154 4 [l0, some (.int i1)] [] H r ↔ Runs xs sl d 154 5 [l0, some (.int i1)] [.int i1] H r := run_step (mo_154 4 rfl) rfl
theorem r154_5 : Runs xs sl d 154 5 [some (.ref a0), l1] [s0] H r ↔ Runs xs sl d 154 6 [some (.ref a0), l1] [.ref a0, s0] H r := run_step (mo_154 5 rfl) rfl
theorem r154_6 : Runs xs sl d 154 6 [l0, l1] [.ref b1, s0] H r ↔ ∃ v, hO H b1 8 0 = some v ∧ Runs xs sl d 154 9 [l0, l1] [v, s0] H r := run_getf (mo_154 6 rfl) rfl rfl
theorem r154_9 : Runs xs sl d 154 9 [l0, l1] [.int u1, .int u0] H r ↔ if u1 ≤ u0 then Runs xs sl d 154 16 [l0, l1] [] H r else Runs xs sl d 154 12 [l0, l1] [] H r := run_if (mo_154 9 rfl) rfl
theorem r154_12 : Runs xs sl d 154 12 [l0, l1] [] H r ↔ Runs xs sl d 154 13 [l0, l1] [.int 1] H r := run_step (mo_154 12 rfl) rfl
theorem r154_13 : Runs xs sl d 154 13 [l0, l1] [s0] H r ↔ Runs xs sl d 154 17 [l0, l1] [s0] H r := run_step (mo_154 13 rfl) rfl
theorem r154_16 : Runs xs sl d 154 16 [l0, l1] [] H r ↔ Runs xs sl d 154 17 [l0, l1] [.int 0] H r := run_step (mo_154 16 rfl) rfl
theorem r154_17 (h : u0 = 0 ∨ u0 = 1) : Runs xs sl d 154 17 [l0, l1] [.int u0] H r ↔ r = (some (.int u0), H) := run_ret (mo_154 17 rfl) (if_pos h)
theorem mo_155 (pc : Nat) {i : Instr} (h : mt_155.lookup pc = some i) : mop 155 pc = some i := h
theorem r155_0 : Runs xs sl d 155 0 [l0, l1, l2, l3, l4] [] H r ↔ Runs xs sl d 155 1 [l0, l1, l2, l3, l4] [.int 0] H r := run_step (mo_155 0 rfl) rfl
theorem r155_1 : Runs xs sl d 155 1 [l0, l1, some (.int i2), l3, l4] [.int u0] H r ↔ Runs xs sl d 155 2 [l0, l1, some (.int i2), some (.int u0), l4] [] H r := run_step (mo_155 1 rfl) rfl
theorem r155_2 : Runs xs sl d 155 2 [l0, l1, l2, l3, l4] [] H r ↔ Runs xs sl d 155 3 [l0, l1, l2, l3, l4] [.int 0] H r := run_step (mo_155 2 rfl) rfl
theorem r155_3 : Runs xs sl d 155 3 [l0, l1, l2, some (.int i3), l4] [.int u0] H r ↔ Runs xs sl d 155 5 [l0, l1, l2, some (.int i3), some (.int u0)] [] H r := run_step (mo_155 3 rfl) rfl
theorem r155_5 : Runs xs sl d 155 5 [l0, l1, l2, l3, some (.int i4)] [] H r ↔ Runs xs sl d 155 7 [l0, l1, l2, l3, some (.int i4)] [.int i4] H r := run_step (mo_155 5 rfl) rfl
theorem r155_7 : Runs xs sl d 155 7 [some (.ref a0), l1, l2, l3, l4] [s0] H r ↔ Runs xs sl d 155 8 [some (.ref a0), l1, l2, l3, l4] [.ref a0, s0] H r := run_step (mo_155 7 rfl) rfl
theorem r155_8 : Runs xs sl d 155 8 [l0, l1, l2, l3, l4] [.ref b1, s0] H r ↔ ∃ v, hO H b1 8 0 = some v ∧ Runs xs sl d 155 11 [l0, l1, l2, l3, l4] [v, s0] H r := run_getf (mo_155 8 rfl) rfl rfl
theorem r155_11 : Runs xs sl d 155 11 [l0, l1, l2, l3, l4] [.int u1, .int u0] H r ↔ if u1 ≤ u0 then Runs xs sl d 155 51 [l0, l1, l2, l3, l4] [] H r else Runs xs sl d 155 14 [l0, l1, l2, l3, l4] [] H r := run_if (mo_155 11 rfl) rfl
theorem r155_14 : Runs xs sl d 155 14 [l0, l1, l2, some (.int i3), l4] [] H r ↔ Runs xs sl d 155 15 [l0, l1, l2, some (.int i3), l4] [.int i3] H r := run_step (mo_155 14 rfl) rfl
theorem r155_15 : Runs xs sl d 155 15 [some (.ref a0), l1, l2, l3, l4] [s0] H r ↔ Runs xs sl d 155 16 [some (.ref a0), l1, l2, l3, l4] [.ref a0, s0] H r := run_step (mo_155 15 rfl) rfl
theorem r155_16 : Runs xs sl d 155 16 [l0, l1, l2, l3, l4] [.ref b1, s0] H r ↔ ∃ v, hO H b1 8 8 = some v ∧ Runs xs sl d 155 19 [l0, l1, l2, l3, l4] [v, s0] H r := run_getf (mo_155 16 rfl) rfl rfl
theorem r155_19 : Runs xs sl d 155 19 [l0, some (.int i1), l2, l3, l4] [s1, s0] H r ↔ Runs xs sl d 155 20 [l0, some (.int i1), l2, l3, l4] [.int i1, s1, s0] H r := run_step (mo_155 19 rfl) rfl
theorem r155_20 : Runs xs sl d 155 20 [l0, l1, l2, l3, l4] [s2, s1, s0] H r ↔ Runs xs sl d 155 22 [l0, l1, l2, l3, l4] [.int 6, s2, s1, s0] H r := run_step (mo_155 20 rfl) rfl
theorem r155_22 : Runs xs sl d 155 22 [l0, l1, l2, l3, l4] [.int u3, .int u2, s1, s0] H r ↔ Runs xs sl d 155 23 [l0, l1, l2, l3, l4] [.int (u2 * u3), s1, s0] H r := run_step (mo_155 22 rfl) rfl
theorem r155_23 : Runs xs sl d 155 23 [l0, l1, l2, l3, some (.int i4)] [s2, s1, s0] H r ↔ Runs xs sl d 155 25 [l0, l1, l2, l3, some (.int i4)] [.int i4, s2, s1, s0] H r := run_step (mo_155 23 rfl) rfl
theorem r155_25 : Runs xs sl d 155 25 [l0, l1, l2, l3, l4] [.int u3, .int u2, s1, s0] H r ↔ Runs xs sl d 155 26 [l0, l1, l2, l3, l4] [.int (u2 + u3), s1, s0] H r := run_step (mo_155 25 rfl) rfl
theorem r155_26 : Runs xs sl d 155 26 [l0, l1, l2, l3, l4] [.int u2, .ref b1, s0] H r ↔ ∃ v, hA H b1 0 u2 = some v ∧ Runs xs sl d 155 27 [l0, l1, l2, l3, l4] [.int v, s0] H r := run_iald (mo_155 26 rfl) rfl
theorem r155_27 : Runs xs sl d 155 27 [some (.ref a0), l1, l2, l3, l4] [s1, s0] H r ↔ Runs xs sl d 155 28 [some (.ref a0), l1, l2, l3, l4] [.ref a0, s1, s0] H r := run_step (mo_155 27 rfl) rfl
theorem r155_28 : Runs xs sl d 155 28 [l0, l1, l2, l3, l4] [.ref b2, s1, s0] H r ↔ ∃ v, hO H b2 8 8 = some v ∧ Runs xs sl d 155 31 [l0, l1, l2, l3, l4] [v, s1, s0] H r := run_getf (mo_155 28 rfl) rfl rfl
theorem r155_31 : Runs xs sl d 155 31 [l0, l1, some (.int i2), l3, l4] [s2, s1, s0] H r ↔ Runs xs sl d 155 32 [l0, l1, some (.int i2), l3, l4] [.int i2, s2, s1, s0] H r := run_step (mo_155 31 rfl) rfl
theorem r155_32 : Runs xs sl d 155 32 [l0, l1, l2, l3, l4] [s3, s2, s1, s0] H r ↔ Runs xs sl d 155 34 [l0, l1, l2, l3, l4] [.int 6, s3, s2, s1, s0] H r := run_step (mo_155 32 rfl) rfl
theorem r155_34 : Runs xs sl d 155 34 [l0, l1, l2, l3, l4] [.int u4, .int u3, s2, s1, s0] H r ↔ Runs xs sl d 155 35 [l0, l1, l2, l3, l4] [.int (u3 * u4), s2, s1, s0] H r := run_step (mo_155 34 rfl) rfl
theorem r155_35 : Runs xs sl d 155 35 [l0, l1, l2, l3, some (.int i4)] [s3, s2, s1, s0] H r ↔ Runs xs sl d 155 37 [l0, l1, l2, l3, some (.int i4)] [.int i4, s3, s2, s1, s0] H r := run_step (mo_155 35 rfl) rfl
theorem r155_37 : Runs xs sl d 155 37 [l0, l1, l2, l3, l4] [.int u4, .int u3, s2, s1, s0] H r ↔ Runs xs sl d 155 38 [l0, l1, l2, l3, l4] [.int (u3 + u4), s2, s1, s0] H r := run_step (mo_155 37 rfl) rfl
theorem r155_38 : Runs xs sl d 155 38 [l0, l1, l2, l3, l4] [.int u3, .ref b2, s1, s0] H r ↔ ∃ v, hA H b2 0 u3 = some v ∧ Runs xs sl d 155 39 [l0, l1, l2, l3, l4] [.int v, s1, s0] H r := run_iald (mo_155 38 rfl) rfl
theorem r155_39 : Runs xs sl d 155 39 [l0, l1, l2, l3, l4] [.int u2, .int u1, s0] H r ↔ Runs xs sl d 155 40 [l0, l1, l2, l3, l4] [.int (u1 - u2), s0] H r := run_step (mo_155 39 rfl) rfl
theorem r155_40 : Runs xs sl (d + 1) 155 40 [l0, l1, l2, l3, l4] [.int u1, .int u0] H r ↔ Runs xs sl (d + 1) 155 43 [l0, l1, l2, l3, l4] [.int (if 0 ≤ u1 then u1 else 0 - u1), .int u0] H r := run_math (top := [.int u1]) (mo_155 40 rfl) rfl (by decide) rfl rfl
theorem r155_43 : Runs xs sl d 155 43 [l0, l1, l2, l3, l4] [.int u1, .int u0] H r ↔ Runs xs sl d 155 44 [l0, l1, l2, l3, l4] [.int (u0 + u1)] H r := run_step (mo_155 43 rfl) rfl
theorem r155_44 : Runs xs sl d 155 44 [l0, l1, some (.int i2), l3, l4] [.int u0] H r ↔ Runs xs sl d 155 45 [l0, l1, some (.int i2), some (.int u0), l4] [] H r := run_step (mo_155 44 rfl) rfl
theorem r155_45 : Runs xs sl d 155 45 [l0, l1, l2, some (.int i3), some (.int i4)] [] H r ↔ Runs xs sl d 155 48 [l0, l1, l2, some (.int i3), some (.int (i4 + 1))] [] H r := run_step (mo_155 45 rfl) rfl
theorem r155_48 : Runs xs sl d 155 48 [l0, l1, l2, l3, l4] [] H r ↔ Runs xs sl d 155 5 [l0, l1, l2, l3, l4] [] H r := run_step (mo_155 48 rfl) rfl
theorem r155_51 : Runs xs sl d 155 51 [l0, l1, l2, some (.int i3), l4] [] H r ↔ Runs xs sl d 155 52 [l0, l1, l2, some (.int i3), l4] [.int i3] H r := run_step (mo_155 51 rfl) rfl
theorem r155_52 : Runs xs sl d 155 52 [l0, l1, l2, l3, l4] [.int u0] H r ↔ r = (some (.int u0), H) := run_ret (mo_155 52 rfl) rfl
theorem mo_156 (pc : Nat) {i : Instr} (h : mt_156.lookup pc = some i) : mop 156 pc = some i := h
theorem r156_0 : Runs xs sl d 156 0 [l0, l1, l2, l3, l4] [] H r ↔ Runs xs sl d 156 1 [l0, l1, l2, l3, l4] [.int 0] H r := run_step (mo_156 0 rfl) rfl
theorem r156_1 : Runs xs sl d 156 1 [l0, some (.int i1), l2, l3, l4] [.int u0] H r ↔ Runs xs sl d 156 2 [l0, some (.int i1), some (.int u0), l3, l4] [] H r := run_step (mo_156 1 rfl) rfl
theorem r156_2 : Runs xs sl d 156 2 [l0, l1, l2, l3, l4] [] H r ↔ Runs xs sl d 156 3 [l0, l1, l2, l3, l4] [.int 0] H r := run_step (mo_156 2 rfl) rfl
theorem r156_3 : Runs xs sl d 156 3 [l0, l1, some (.int i2), l3, l4] [.int u0] H r ↔ Runs xs sl d 156 4 [l0, l1, some (.int i2), some (.int u0), l4] [] H r := run_step (mo_156 3 rfl) rfl
theorem r156_4 : Runs xs sl d 156 4 [l0, l1, l2, l3, l4] [] H r ↔ Runs xs sl d 156 5 [l0, l1, l2, l3, l4] [.int 0] H r := run_step (mo_156 4 rfl) rfl
theorem r156_5 : Runs xs sl d 156 5 [l0, l1, l2, some (.int i3), l4] [.int u0] H r ↔ Runs xs sl d 156 7 [l0, l1, l2, some (.int i3), some (.int u0)] [] H r := run_step (mo_156 5 rfl) rfl
theorem r156_7 : Runs xs sl d 156 7 [l0, l1, l2, l3, some (.int i4)] [] H r ↔ Runs xs sl d 156 9 [l0, l1, l2, l3, some (.int i4)] [.int i4] H r := run_step (mo_156 7 rfl) rfl
theorem r156_9 : Runs xs sl d 156 9 [some (.ref a0), l1, l2, l3, l4] [s0] H r ↔ Runs xs sl d 156 10 [some (.ref a0), l1, l2, l3, l4] [.ref a0, s0] H r := run_step (mo_156 9 rfl) rfl
theorem r156_10 : Runs xs sl d 156 10 [l0, l1, l2, l3, l4] [.ref b1, s0] H r ↔ ∃ v, hO H b1 8 2 = some v ∧ Runs xs sl d 156 13 [l0, l1, l2, l3, l4] [v, s0] H r := run_getf (mo_156 10 rfl) rfl rfl
theorem r156_13 : Runs xs sl d 156 13 [l0, l1, l2, l3, l4] [.int u1, .int u0] H r ↔ if u1 ≤ u0 then Runs xs sl d 156 44 [l0, l1, l2, l3, l4] [] H r else Runs xs sl d 156 16 [l0, l1, l2, l3, l4] [] H r := run_if (mo_156 13 rfl) rfl
theorem r156_16 : Runs xs sl d 156 16 [l0, l1, some (.int i2), l3, l4] [] H r ↔ Runs xs sl d 156 17 [l0, l1, some (.int i2), l3, l4] [.int i2] H r := run_step (mo_156 16 rfl) rfl
theorem r156_17 : Runs xs sl d 156 17 [l0, l1, l2, l3, some (.int i4)] [s0] H r ↔ Runs xs sl d 156 19 [l0, l1, l2, l3, some (.int i4)] [.int i4, s0] H r := run_step (mo_156 17 rfl) rfl
theorem r156_19 : Runs xs sl d 156 19 [l0, l1, l2, l3, l4] [.int u1, .int u0] H r ↔ Runs xs sl d 156 20 [l0, l1, l2, l3, l4] [.int (u0 >>> (u1 &&& 31))] H r := run_step (mo_156 19 rfl) rfl
theorem r156_20 : Runs xs sl d 156 20 [l0, l1, l2, l3, l4] [s0] H r ↔ Runs xs sl d 156 21 [l0, l1, l2, l3, l4] [.int 1, s0] H r := run_step (mo_156 20 rfl) rfl
theorem r156_21 : Runs xs sl d 156 21 [l0, l1, l2, l3, l4] [.int u1, .int u0] H r ↔ Runs xs sl d 156 22 [l0, l1, l2, l3, l4] [.int (u0 &&& u1)] H r := run_step (mo_156 21 rfl) rfl
theorem r156_22 : Runs xs sl d 156 22 [l0, l1, l2, l3, l4] [.int u0] H r ↔ if ¬ u0 = 0 then Runs xs sl d 156 38 [l0, l1, l2, l3, l4] [] H r else Runs xs sl d 156 25 [l0, l1, l2, l3, l4] [] H r := run_if (mo_156 22 rfl) rfl
theorem r156_25 : Runs xs sl d 156 25 [l0, l1, some (.int i2), l3, l4] [] H r ↔ Runs xs sl d 156 26 [l0, l1, some (.int i2), l3, l4] [.int i2] H r := run_step (mo_156 25 rfl) rfl
theorem r156_26 : Runs xs sl d 156 26 [some (.ref a0), l1, l2, l3, l4] [s0] H r ↔ Runs xs sl d 156 27 [some (.ref a0), l1, l2, l3, l4] [.ref a0, s0] H r := run_step (mo_156 26 rfl) rfl
theorem r156_27 : Runs xs sl d 156 27 [l0, some (.int i1), l2, l3, l4] [s1, s0] H r ↔ Runs xs sl d 156 28 [l0, some (.int i1), l2, l3, l4] [.int i1, s1, s0] H r := run_step (mo_156 27 rfl) rfl
theorem r156_28 : Runs xs sl d 156 28 [l0, l1, l2, l3, some (.int i4)] [s2, s1, s0] H r ↔ Runs xs sl d 156 30 [l0, l1, l2, l3, some (.int i4)] [.int i4, s2, s1, s0] H r := run_step (mo_156 28 rfl) rfl
theorem r156_30 (hc : hC H b1 = some 8) : Runs xs sl (d + 1) 156 30 [l0, l1, l2, l3, l4] [.int u3, .int u2, .ref b1, .int u0] H r ↔ ∃ v H1, Runs xs sl d 157 0 [some (.ref b1), some (.int u2), some (.int u3), none, none] [] H (v, H1) ∧ Runs xs sl (d + 1) 156 33 [l0, l1, l2, l3, l4] (v.toList ++ [.int u0]) H1 r := run_callV (M' := 157) (as := [.int u2, .int u3]) (rest := [.int u0]) (mo_156 30 rfl) rfl rfl rfl (Nat.le_of_ble_eq_true rfl) (Nat.le_of_ble_eq_true rfl) rfl rfl hc
theorem r156_33 : Runs xs sl d 156 33 [l0, l1, l2, l3, l4] [.int u1, .int u0] H r ↔ Runs xs sl d 156 34 [l0, l1, l2, l3, l4] [.int (u0 ||| u1)] H r := run_step (mo_156 33 rfl) rfl
theorem r156_34 : Runs xs sl d 156 34 [l0, some (.int i1), l2, l3, l4] [.int u0] H r ↔ Runs xs sl d 156 35 [l0, some (.int i1), some (.int u0), l3, l4] [] H r := run_step (mo_156 34 rfl) rfl
theorem r156_35 : Runs xs sl d 156 35 [l0, l1, some (.int i2), some (.int i3), l4] [] H r ↔ Runs xs sl d 156 38 [l0, l1, some (.int i2), some (.int (i3 + 1)), l4] [] H r := run_step (mo_156 35 rfl) rfl
theorem r156_38 : Runs xs sl d 156 38 [l0, l1, l2, some (.int i3), some (.int i4)] [] H r ↔ Runs xs sl d 156 41 [l0, l1, l2, some (.int i3), some (.int (i4 + 1))] [] H r := run_step (mo_156 38 rfl) rfl
theorem r156_41 : Runs xs sl d 156 41 [l0, l1, l2, l3, l4] [] H r ↔ Runs xs sl d 156 7 [l0, l1, l2, l3, l4] [] H r := run_step (mo_156 41 rfl) rfl
theorem r156_44 : Runs xs sl d 156 44 [l0, l1, l2, some (.int i3), l4] [] H r ↔ Runs xs sl d 156 45 [l0, l1, l2, some (.int i3), l4] [.int i3] H r := run_step (mo_156 44 rfl) rfl
theorem r156_45 : Runs xs sl d 156 45 [l0, l1, l2, l3, l4] [.int u0] H r ↔ r = (some (.int u0), H) := run_ret (mo_156 45 rfl) rfl
theorem mo_157 (pc : Nat) {i : Instr} (h : mt_157.lookup pc = some i) : mop 157 pc = some i := h
theorem r157_0 : Runs xs sl d 157 0 [l0, l1, l2, l3, l4] [] H r ↔ Runs xs sl d 157 1 [l0, l1, l2, l3, l4] [.int 1] H r := run_step (mo_157 0 rfl) rfl
theorem r157_1 : Runs xs sl d 157 1 [l0, l1, some (.int i2), l3, l4] [s0] H r ↔ Runs xs sl d 157 2 [l0, l1, some (.int i2), l3, l4] [.int i2, s0] H r := run_step (mo_157 1 rfl) rfl
theorem r157_2 : Runs xs sl d 157 2 [l0, l1, l2, l3, l4] [.int u1, .int u0] H r ↔ Runs xs sl d 157 3 [l0, l1, l2, l3, l4] [.int (u0 <<< (u1 &&& 31))] H r := run_step (mo_157 2 rfl) rfl
theorem r157_3 : Runs xs sl d 157 3 [l0, l1, some (.int i2), l3, l4] [.int u0] H r ↔ Runs xs sl d 157 4 [l0, l1, some (.int i2), some (.int u0), l4] [] H r := run_step (mo_157 3 rfl) rfl
theorem r157_4 : Runs xs sl d 157 4 [l0, l1, l2, l3, l4] [] H r ↔ Runs xs sl d 157 5 [l0, l1, l2, l3, l4] [.int 1] H r := run_step (mo_157 4 rfl) rfl
theorem r157_5 : Runs xs sl d 157 5 [l0, l1, l2, some (.int i3), l4] [.int u0] H r ↔ Runs xs sl d 157 7 [l0, l1, l2, some (.int i3), some (.int u0)] [] H r := run_step (mo_157 5 rfl) rfl
theorem r157_7 : Runs xs sl d 157 7 [l0, l1, l2, l3, some (.int i4)] [] H r ↔ Runs xs sl d 157 9 [l0, l1, l2, l3, some (.int i4)] [.int i4] H r := run_step (mo_157 7 rfl) rfl
theorem r157_9 : Runs xs sl d 157 9 [some (.ref a0), l1, l2, l3, l4] [s0] H r ↔ Runs xs sl d 157 10 [some (.ref a0), l1, l2, l3, l4] [.ref a0, s0] H r := run_step (mo_157 9 rfl) rfl
theorem r157_10 : Runs xs sl d 157 10 [l0, l1, l2, l3, l4] [.ref b1, s0] H r ↔ ∃ v, hO H b1 8 2 = some v ∧ Runs xs sl d 157 13 [l0, l1, l2, l3, l4] [v, s0] H r := run_getf (mo_157 10 rfl) rfl rfl
theorem r157_13 : Runs xs sl d 157 13 [l0, l1, l2, l3, l4] [.int u1, .int u0] H r ↔ if u1 ≤ u0 then Runs xs sl d 157 29 [l0, l1, l2, l3, l4] [] H r else Runs xs sl d 157 16 [l0, l1, l2, l3, l4] [] H r := run_if (mo_157 13 rfl) rfl
theorem r157_16 : Runs xs sl d 157 16 [some (.ref a0), l1, l2, l3, l4] [] H r ↔ Runs xs sl d 157 17 [some (.ref a0), l1, l2, l3, l4] [.ref a0] H r := run_step (mo_157 16 rfl) rfl
theorem r157_17 : Runs xs sl d 157 17 [l0, some (.int i1), l2, l3, l4] [s0] H r ↔ Runs xs sl d 157 18 [l0, some (.int i1), l2, l3, l4] [.int i1, s0] H r := run_step (mo_157 17 rfl) rfl
theorem r157_18 : Runs xs sl d 157 18 [l0, l1, l2, some (.int i3), l4] [s1, s0] H r ↔ Runs xs sl d 157 19 [l0, l1, l2, some (.int i3), l4] [.int i3, s1, s0] H r := run_step (mo_157 18 rfl) rfl
theorem r157_19 (hc : hC H b0 = some 8) : Runs xs sl (d + 1) 157 19 [l0, l1, l2, l3, l4] [.int u2, .int u1, .ref b0] H r ↔ ∃ v H1, Runs xs sl d 158 0 [some (.ref b0), some (.int u1), some (.int u2), none, none] [] H (v, H1) ∧ Runs xs sl (d + 1) 157 22 [l0, l1, l2, l3, l4] (v.toList ++ []) H1 r := run_callV (M' := 158) (as := [.int u1, .int u2]) (rest := []) (mo_157 19 rfl) rfl rfl rfl (Nat.le_of_ble_eq_true rfl) (Nat.le_of_ble_eq_true rfl) rfl rfl hc
theorem r157_22 : Runs xs sl d 157 22 [l0, l1, some (.int i2), l3, l4] [.int u0] H r ↔ Runs xs sl d 157 23 [l0, l1, some (.int i2), some (.int u0), l4] [] H r := run_step (mo_157 22 rfl) rfl
theorem r157_23 : Runs xs sl d 157 23 [l0, l1, l2, some (.int i3), some (.int i4)] [] H r ↔ Runs xs sl d 157 26 [l0, l1, l2, some (.int i3), some (.int (i4 + 1))] [] H r := run_step (mo_157 23 rfl) rfl
theorem r157_26 : Runs xs sl d 157 26 [l0, l1, l2, l3, l4] [] H r ↔ Runs xs sl d 157 7 [l0, l1, l2, l3, l4] [] H r := run_step (mo_157 26 rfl) rfl
theorem r157_29 : Runs xs sl d 157 29 [l0, l1, l2, some (.int i3), l4] [] H r ↔ Runs xs sl d 157 30 [l0, l1, l2, some (.int i3), l4] [.int i3] H r := run_step (mo_157 29 rfl) rfl
theorem r157_30 : Runs xs sl d 157 30 [l0, l1, l2, l3, l4] [.int u0] H r ↔ r = (some (.int u0), H) := run_ret (mo_157 30 rfl) rfl
theorem mo_158 (pc : Nat) {i : Instr} (h : mt_158.lookup pc = some i) : mop 158 pc = some i := h
theorem r158_0 : Runs xs sl d 158 0 [l0, l1, some (.int i2), l3, l4] [] H r ↔ Runs xs sl d 158 1 [l0, l1, some (.int i2), l3, l4] [.int i2] H r := run_step (mo_158 0 rfl) rfl
theorem r158_1 : Runs xs sl d 158 1 [l0, l1, some (.int i2), l3, l4] [.int u0] H r ↔ Runs xs sl d 158 2 [l0, l1, some (.int i2), some (.int u0), l4] [] H r := run_step (mo_158 1 rfl) rfl
theorem r158_2 : Runs xs sl d 158 2 [l0, l1, l2, l3, l4] [] H r ↔ Runs xs sl d 158 3 [l0, l1, l2, l3, l4] [.int 0] H r := run_step (mo_158 2 rfl) rfl
theorem r158_3 : Runs xs sl d 158 3 [l0, l1, l2, some (.int i3), l4] [.int u0] H r ↔ Runs xs sl d 158 5 [l0, l1, l2, some (.int i3), some (.int u0)] [] H r := run_step (mo_158 3 rfl) rfl
theorem r158_5 : Runs xs sl d 158 5 [l0, l1, l2, l3, some (.int i4)] [] H r ↔ Runs xs sl d 158 7 [l0, l1, l2, l3, some (.int i4)] [.int i4] H r := run_step (mo_158 5 rfl) rfl
theorem r158_7 : Runs xs sl d 158 7 [some (.ref a0), l1, l2, l3, l4] [s0] H r ↔ Runs xs sl d 158 8 [some (.ref a0), l1, l2, l3, l4] [.ref a0, s0] H r := run_step (mo_158 7 rfl) rfl
theorem r158_8 : Runs xs sl d 158 8 [l0, l1, l2, l3, l4] [.ref b1, s0] H r ↔ ∃ v, hO H b1 8 2 = some v ∧ Runs xs sl d 158 11 [l0, l1, l2, l3, l4] [v, s0] H r := run_getf (mo_158 8 rfl) rfl rfl
theorem r158_11 : Runs xs sl d 158 11 [l0, l1, l2, l3, l4] [.int u1, .int u0] H r ↔ if u1 ≤ u0 then Runs xs sl d 158 47 [l0, l1, l2, l3, l4] [] H r else Runs xs sl d 158 14 [l0, l1, l2, l3, l4] [] H r := run_if (mo_158 11 rfl) rfl
theorem r158_14 : Runs xs sl d 158 14 [l0, l1, some (.int i2), l3, l4] [] H r ↔ Runs xs sl d 158 15 [l0, l1, some (.int i2), l3, l4] [.int i2] H r := run_step (mo_158 14 rfl) rfl
theorem r158_15 : Runs xs sl d 158 15 [l0, l1, l2, l3, some (.int i4)] [s0] H r ↔ Runs xs sl d 158 17 [l0, l1, l2, l3, some (.int i4)] [.int i4, s0] H r := run_step (mo_158 15 rfl) rfl
theorem r158_17 : Runs xs sl d 158 17 [l0, l1, l2, l3, l4] [.int u1, .int u0] H r ↔ Runs xs sl d 158 18 [l0, l1, l2, l3, l4] [.int (u0 >>> (u1 &&& 31))] H r := run_step (mo_158 17 rfl) rfl
theorem r158_18 : Runs xs sl d 158 18 [l0, l1, l2, l3, l4] [s0] H r ↔ Runs xs sl d 158 19 [l0, l1, l2, l3, l4] [.int 1, s0] H r := run_step (mo_158 18 rfl) rfl
theorem r158_19 : Runs xs sl d 158 19 [l0, l1, l2, l3, l4] [.int u1, .int u0] H r ↔ Runs xs sl d 158 20 [l0, l1, l2, l3, l4] [.int (u0 &&& u1)] H r := run_step (mo_158 19 rfl) rfl
theorem r158_20 : Runs xs sl d 158 20 [l0, l1, l2, l3, l4] [.int u0] H r ↔ if ¬ u0 = 0 then Runs xs sl d 158 41 [l0, l1, l2, l3, l4] [] H r else Runs xs sl d 158 23 [l0, l1, l2, l3, l4] [] H r := run_if (mo_158 20 rfl) rfl
theorem r158_23 : Runs xs sl d 158 23 [some (.ref a0), l1, l2, l3, l4] [] H r ↔ Runs xs sl d 158 24 [some (.ref a0), l1, l2, l3, l4] [.ref a0] H r := run_step (mo_158 23 rfl) rfl
theorem r158_24 : Runs xs sl d 158 24 [l0, some (.int i1), l2, l3, l4] [s0] H r ↔ Runs xs sl d 158 25 [l0, some (.int i1), l2, l3, l4] [.int i1, s0] H r := run_step (mo_158 24 rfl) rfl
theorem r158_25 : Runs xs sl d 158 25 [l0, l1, some (.int i2), l3, l4] [s1, s0] H r ↔ Runs xs sl d 158 26 [l0, l1, some (.int i2), l3, l4] [.int i2, s1, s0] H r := run_step (mo_158 25 rfl) rfl
theorem r158_26 : Runs xs sl d 158 26 [l0, l1, l2, l3, some (.int i4)] [s2, s1, s0] H r ↔ Runs xs sl d 158 28 [l0, l1, l2, l3, some (.int i4)] [.int i4, s2, s1, s0] H r := run_step (mo_158 26 rfl) rfl
theorem r158_28 (hc : hC H b0 = some 8) : Runs xs sl (d + 1) 158 28 [l0, l1, l2, l3, l4] [.int u3, .int u2, .int u1, .ref b0] H r ↔ ∃ v H1, Runs xs sl d 159 0 [some (.ref b0), some (.int u1), some (.int u2), some (.int u3), none] [] H (v, H1) ∧ Runs xs sl (d + 1) 158 31 [l0, l1, l2, l3, l4] (v.toList ++ []) H1 r := run_callV (M' := 159) (as := [.int u1, .int u2, .int u3]) (rest := []) (mo_158 28 rfl) rfl rfl rfl (Nat.le_of_ble_eq_true rfl) (Nat.le_of_ble_eq_true rfl) rfl rfl hc
theorem r158_31 : Runs xs sl d 158 31 [l0, l1, l2, l3, l4] [.int u0] H r ↔ if u0 = 0 then Runs xs sl d 158 41 [l0, l1, l2, l3, l4] [] H r else Runs xs sl d 158 34 [l0, l1, l2, l3, l4] [] H r := run_if (mo_158 31 rfl) rfl
theorem r158_34 : Runs xs sl d 158 34 [l0, l1, l2, some (.int i3), l4] [] H r ↔ Runs xs sl d 158 35 [l0, l1, l2, some (.int i3), l4] [.int i3] H r := run_step (mo_158 34 rfl) rfl
theorem r158_35 : Runs xs sl d 158 35 [l0, l1, l2, l3, l4] [s0] H r ↔ Runs xs sl d 158 36 [l0, l1, l2, l3, l4] [.int 1, s0] H r := run_step (mo_158 35 rfl) rfl
theorem r158_36 : Runs xs sl d 158 36 [l0, l1, l2, l3, some (.int i4)] [s1, s0] H r ↔ Runs xs sl d 158 38 [l0, l1, l2, l3, some (.int i4)] [.int i4, s1, s0] H r := run_step (mo_158 36 rfl) rfl
theorem r158_38 : Runs xs sl d 158 38 [l0, l1, l2, l3, l4] [.int u2, .int u1, s0] H r ↔ Runs xs sl d 158 39 [l0, l1, l2, l3, l4] [.int (u1 <<< (u2 &&& 31)), s0] H r := run_step (mo_158 38 rfl) rfl
theorem r158_39 : Runs xs sl d 158 39 [l0, l1, l2, l3, l4] [.int u1, .int u0] H r ↔ Runs xs sl d 158 40 [l0, l1, l2, l3, l4] [.int (u0 ||| u1)] H r := run_step (mo_158 39 rfl) rfl
theorem r158_40 : Runs xs sl d 158 40 [l0, l1, some (.int i2), l3, l4] [.int u0] H r ↔ Runs xs sl d 158 41 [l0, l1, some (.int i2), some (.int u0), l4] [] H r := run_step (mo_158 40 rfl) rfl
theorem r158_41 : Runs xs sl d 158 41 [l0, l1, l2, some (.int i3), some (.int i4)] [] H r ↔ Runs xs sl d 158 44 [l0, l1, l2, some (.int i3), some (.int (i4 + 1))] [] H r := run_step (mo_158 41 rfl) rfl
theorem r158_44 : Runs xs sl d 158 44 [l0, l1, l2, l3, l4] [] H r ↔ Runs xs sl d 158 5 [l0, l1, l2, l3, l4] [] H r := run_step (mo_158 44 rfl) rfl
theorem r158_47 : Runs xs sl d 158 47 [l0, l1, l2, some (.int i3), l4] [] H r ↔ Runs xs sl d 158 48 [l0, l1, l2, some (.int i3), l4] [.int i3] H r := run_step (mo_158 47 rfl) rfl
theorem r158_48 : Runs xs sl d 158 48 [l0, l1, l2, l3, l4] [.int u0] H r ↔ r = (some (.int u0), H) := run_ret (mo_158 48 rfl) rfl
theorem mo_159 (pc : Nat) {i : Instr} (h : mt_159.lookup pc = some i) : mop 159 pc = some i := h
theorem r159_0 : Runs xs sl d 159 0 [l0, l1, l2, l3, l4] [] H r ↔ Runs xs sl d 159 1 [l0, l1, l2, l3, l4] [.int 0] H r := run_step (mo_159 0 rfl) rfl
theorem r159_1 : Runs xs sl d 159 1 [l0, l1, l2, some (.int i3), l4] [.int u0] H r ↔ Runs xs sl d 159 3 [l0, l1, l2, some (.int i3), some (.int u0)] [] H r := run_step (mo_159 1 rfl) rfl
theorem r159_3 : Runs xs sl d 159 3 [l0, l1, l2, l3, some (.int i4)] [] H r ↔ Runs xs sl d 159 5 [l0, l1, l2, l3, some (.int i4)] [.int i4] H r := run_step (mo_159 3 rfl) rfl
theorem r159_5 : Runs xs sl d 159 5 [some (.ref a0), l1, l2, l3, l4] [s0] H r ↔ Runs xs sl d 159 6 [some (.ref a0), l1, l2, l3, l4] [.ref a0, s0] H r := run_step (mo_159 5 rfl) rfl
theorem r159_6 : Runs xs sl d 159 6 [l0, l1, l2, l3, l4] [.ref b1, s0] H r ↔ ∃ v, hO H b1 8 2 = some v ∧ Runs xs sl d 159 9 [l0, l1, l2, l3, l4] [v, s0] H r := run_getf (mo_159 6 rfl) rfl rfl
theorem r159_9 : Runs xs sl d 159 9 [l0, l1, l2, l3, l4] [.int u1, .int u0] H r ↔ if u1 ≤ u0 then Runs xs sl d 159 40 [l0, l1, l2, l3, l4] [] H r else Runs xs sl d 159 12 [l0, l1, l2, l3, l4] [] H r := run_if (mo_159 9 rfl) rfl
theorem r159_12 : Runs xs sl d 159 12 [l0, l1, some (.int i2), l3, l4] [] H r ↔ Runs xs sl d 159 13 [l0, l1, some (.int i2), l3, l4] [.int i2] H r := run_step (mo_159 12 rfl) rfl
theorem r159_13 : Runs xs sl d 159 13 [l0, l1, l2, l3, some (.int i4)] [s0] H r ↔ Runs xs sl d 159 15 [l0, l1, l2, l3, some (.int i4)] [.int i4, s0] H r := run_step (mo_159 13 rfl) rfl
theorem r159_15 : Runs xs sl d 159 15 [l0, l1, l2, l3, l4] [.int u1, .int u0] H r ↔ Runs xs sl d 159 16 [l0, l1, l2, l3, l4] [.int (u0 >>> (u1 &&& 31))] H r := run_step (mo_159 15 rfl) rfl
theorem r159_16 : Runs xs sl d 159 16 [l0, l1, l2, l3, l4] [s0] H r ↔ Runs xs sl d 159 17 [l0, l1, l2, l3, l4] [.int 1, s0] H r := run_step (mo_159 16 rfl) rfl
theorem r159_17 : Runs xs sl d 159 17 [l0, l1, l2, l3, l4] [.int u1, .int u0] H r ↔ Runs xs sl d 159 18 [l0, l1, l2, l3, l4] [.int (u0 &&& u1)] H r := run_step (mo_159 17 rfl) rfl
theorem r159_18 : Runs xs sl d 159 18 [l0, l1, l2, l3, l4] [.int u0] H r ↔ if u0 = 0 then Runs xs sl d 159 34 [l0, l1, l2, l3, l4] [] H r else Runs xs sl d 159 21 [l0, l1, l2, l3, l4] [] H r := run_if (mo_159 18 rfl) rfl
theorem r159_21 : Runs xs sl d 159 21 [some (.ref a0), l1, l2, l3, l4] [] H r ↔ Runs xs sl d 159 22 [some (.ref a0), l1, l2, l3, l4] [.ref a0] H r := run_step (mo_159 21 rfl) rfl
theorem r159_22 : Runs xs sl d 159 22 [l0, l1, l2, l3, some (.int i4)] [s0] H r ↔ Runs xs sl d 159 24 [l0, l1, l2, l3, some (.int i4)] [.int i4, s0] H r := run_step (mo_159 22 rfl) rfl
theorem r159_24 : Runs xs sl d 159 24 [l0, l1, l2, some (.int i3), l4] [s1, s0] H r ↔ Runs xs sl d 159 25 [l0, l1, l2, some (.int i3), l4] [.int i3, s1, s0] H r := run_step (mo_159 24 rfl) rfl
theorem r159_25 (hc : hC H b0 = some 8) : Runs xs sl (d + 1) 159 25 [l0, l1, l2, l3, l4] [.int u2, .int u1, .ref b0] H r ↔ ∃ v H1, Runs xs sl d 155 0 [some (.ref b0), some (.int u1), some (.int u2), none, none] [] H (v, H1) ∧ Runs xs sl (d + 1) 159 28 [l0, l1, l2, l3, l4] (v.toList ++ []) H1 r := run_callV (M' := 155) (as := [.int u1, .int u2]) (rest := []) (mo_159 25 rfl) rfl rfl rfl (Nat.le_of_ble_eq_true rfl) (Nat.le_of_ble_eq_true rfl) rfl rfl hc
theorem r159_28 : Runs xs sl d 159 28 [l0, some (.int i1), l2, l3, l4] [s0] H r ↔ Runs xs sl d 159 29 [l0, some (.int i1), l2, l3, l4] [.int i1, s0] H r := run_step (mo_159 28 rfl) rfl
theorem r159_29 : Runs xs sl d 159 29 [l0, l1, l2, l3, l4] [.int u1, .int u0] H r ↔ if u1 < u0 then Runs xs sl d 159 34 [l0, l1, l2, l3, l4] [] H r else Runs xs sl d 159 32 [l0, l1, l2, l3, l4] [] H r := run_if (mo_159 29 rfl) rfl
theorem r159_32 : Runs xs sl d 159 32 [l0, l1, l2, l3, l4] [] H r ↔ Runs xs sl d 159 33 [l0, l1, l2, l3, l4] [.int 1] H r := run_step (mo_159 32 rfl) rfl
theorem r159_33 (h : u0 = 0 ∨ u0 = 1) : Runs xs sl d 159 33 [l0, l1, l2, l3, l4] [.int u0] H r ↔ r = (some (.int u0), H) := run_ret (mo_159 33 rfl) (if_pos h)
theorem r159_34 : Runs xs sl d 159 34 [l0, l1, l2, some (.int i3), some (.int i4)] [] H r ↔ Runs xs sl d 159 37 [l0, l1, l2, some (.int i3), some (.int (i4 + 1))] [] H r := run_step (mo_159 34 rfl) rfl
theorem r159_37 : Runs xs sl d 159 37 [l0, l1, l2, l3, l4] [] H r ↔ Runs xs sl d 159 3 [l0, l1, l2, l3, l4] [] H r := run_step (mo_159 37 rfl) rfl
theorem r159_40 : Runs xs sl d 159 40 [l0, l1, l2, l3, l4] [] H r ↔ Runs xs sl d 159 41 [l0, l1, l2, l3, l4] [.int 0] H r := run_step (mo_159 40 rfl) rfl
theorem r159_41 (h : u0 = 0 ∨ u0 = 1) : Runs xs sl d 159 41 [l0, l1, l2, l3, l4] [.int u0] H r ↔ r = (some (.int u0), H) := run_ret (mo_159 41 rfl) (if_pos h)
theorem mo_160 (pc : Nat) {i : Instr} (h : mt_160.lookup pc = some i) : mop 160 pc = some i := h
theorem r160_0 : Runs xs sl d 160 0 [l0, l1, l2, l3, l4] [] H r ↔ Runs xs sl d 160 1 [l0, l1, l2, l3, l4] [.int 0] H r := run_step (mo_160 0 rfl) rfl
theorem r160_1 : Runs xs sl d 160 1 [l0, some (.int i1), l2, l3, l4] [.int u0] H r ↔ Runs xs sl d 160 2 [l0, some (.int i1), some (.int u0), l3, l4] [] H r := run_step (mo_160 1 rfl) rfl
theorem r160_2 : Runs xs sl d 160 2 [l0, l1, l2, l3, l4] [] H r ↔ Runs xs sl d 160 3 [l0, l1, l2, l3, l4] [.int 0] H r := run_step (mo_160 2 rfl) rfl
theorem r160_3 : Runs xs sl d 160 3 [l0, l1, some (.int i2), l3, l4] [.int u0] H r ↔ Runs xs sl d 160 4 [l0, l1, some (.int i2), some (.int u0), l4] [] H r := run_step (mo_160 3 rfl) rfl
theorem r160_4 : Runs xs sl d 160 4 [l0, l1, l2, some (.int i3), l4] [] H r ↔ Runs xs sl d 160 5 [l0, l1, l2, some (.int i3), l4] [.int i3] H r := run_step (mo_160 4 rfl) rfl
theorem r160_5 : Runs xs sl d 160 5 [some (.ref a0), l1, l2, l3, l4] [s0] H r ↔ Runs xs sl d 160 6 [some (.ref a0), l1, l2, l3, l4] [.ref a0, s0] H r := run_step (mo_160 5 rfl) rfl
theorem r160_6 : Runs xs sl d 160 6 [l0, l1, l2, l3, l4] [.ref b1, s0] H r ↔ ∃ v, hO H b1 8 2 = some v ∧ Runs xs sl d 160 9 [l0, l1, l2, l3, l4] [v, s0] H r := run_getf (mo_160 6 rfl) rfl rfl
theorem r160_9 : Runs xs sl d 160 9 [l0, l1, l2, l3, l4] [.int u1, .int u0] H r ↔ if u1 ≤ u0 then Runs xs sl d 160 27 [l0, l1, l2, l3, l4] [] H r else Runs xs sl d 160 12 [l0, l1, l2, l3, l4] [] H r := run_if (mo_160 9 rfl) rfl
theorem r160_12 : Runs xs sl d 160 12 [l0, l1, some (.int i2), l3, l4] [] H r ↔ Runs xs sl d 160 13 [l0, l1, some (.int i2), l3, l4] [.int i2] H r := run_step (mo_160 12 rfl) rfl
theorem r160_13 : Runs xs sl d 160 13 [some (.ref a0), l1, l2, l3, l4] [s0] H r ↔ Runs xs sl d 160 14 [some (.ref a0), l1, l2, l3, l4] [.ref a0, s0] H r := run_step (mo_160 13 rfl) rfl
theorem r160_14 : Runs xs sl d 160 14 [l0, l1, l2, some (.int i3), l4] [s1, s0] H r ↔ Runs xs sl d 160 15 [l0, l1, l2, some (.int i3), l4] [.int i3, s1, s0] H r := run_step (mo_160 14 rfl) rfl
theorem r160_15 : Runs xs sl d 160 15 [l0, some (.int i1), l2, l3, l4] [s2, s1, s0] H r ↔ Runs xs sl d 160 16 [l0, some (.int i1), l2, l3, l4] [.int i1, s2, s1, s0] H r := run_step (mo_160 15 rfl) rfl
theorem r160_16 (hc : hC H b1 = some 8) : Runs xs sl (d + 1) 160 16 [l0, l1, l2, l3, l4] [.int u3, .int u2, .ref b1, .int u0] H r ↔ ∃ v H1, Runs xs sl d 161 0 [some (.ref b1), some (.int u2), some (.int u3)] [] H (v, H1) ∧ Runs xs sl (d + 1) 160 19 [l0, l1, l2, l3, l4] (v.toList ++ [.int u0]) H1 r := run_callV (M' := 161) (as := [.int u2, .int u3]) (rest := [.int u0]) (mo_160 16 rfl) rfl rfl rfl (Nat.le_of_ble_eq_true rfl) (Nat.le_of_ble_eq_true rfl) rfl rfl hc
theorem r160_19 : Runs xs sl d 160 19 [l0, l1, l2, l3, l4] [.int u1, .int u0] H r ↔ Runs xs sl d 160 20 [l0, l1, l2, l3, l4] [.int (u0 + u1)] H r := run_step (mo_160 19 rfl) rfl
theorem r160_20 : Runs xs sl d 160 20 [l0, some (.int i1), l2, l3, l4] [.int u0] H r ↔ Runs xs sl d 160 21 [l0, some (.int i1), some (.int u0), l3, l4] [] H r := run_step (mo_160 20 rfl) rfl
theorem r160_21 : Runs xs sl d 160 21 [l0, l1, some (.int i2), some (.int i3), l4] [] H r ↔ Runs xs sl d 160 24 [l0, l1, some (.int i2), some (.int (i3 + 1)), l4] [] H r := run_step (mo_160 21 rfl) rfl
theorem r160_24 : Runs xs sl d 160 24 [l0, l1, l2, l3, l4] [] H r ↔ Runs xs sl d 160 4 [l0, l1, l2, l3, l4] [] H r := run_step (mo_160 24 rfl) rfl
theorem r160_27 : Runs xs sl d 160 27 [l0, l1, l2, l3, l4] [] H r ↔ Runs xs sl d 160 28 [l0, l1, l2, l3, l4] [.int 0] H r := run_step (mo_160 27 rfl) rfl
theorem r160_28 : Runs xs sl d 160 28 [l0, l1, some (.int i2), l3, l4] [.int u0] H r ↔ Runs xs sl d 160 29 [l0, l1, some (.int i2), some (.int u0), l4] [] H r := run_step (mo_160 28 rfl) rfl
theorem r160_29 : Runs xs sl d 160 29 [l0, l1, l2, l3, l4] [] H r ↔ Runs xs sl d 160 30 [l0, l1, l2, l3, l4] [.int 0] H r := run_step (mo_160 29 rfl) rfl
theorem r160_30 : Runs xs sl d 160 30 [l0, l1, l2, some (.int i3), l4] [.int u0] H r ↔ Runs xs sl d 160 32 [l0, l1, l2, some (.int i3), some (.int u0)] [] H r := run_step (mo_160 30 rfl) rfl
theorem r160_32 : Runs xs sl d 160 32 [l0, l1, l2, l3, some (.int i4)] [] H r ↔ Runs xs sl d 160 34 [l0, l1, l2, l3, some (.int i4)] [.int i4] H r := run_step (mo_160 32 rfl) rfl
theorem r160_34 : Runs xs sl d 160 34 [some (.ref a0), l1, l2, l3, l4] [s0] H r ↔ Runs xs sl d 160 35 [some (.ref a0), l1, l2, l3, l4] [.ref a0, s0] H r := run_step (mo_160 34 rfl) rfl
theorem r160_35 : Runs xs sl d 160 35 [l0, l1, l2, l3, l4] [.ref b1, s0] H r ↔ ∃ v, hO H b1 8 2 = some v ∧ Runs xs sl d 160 38 [l0, l1, l2, l3, l4] [v, s0] H r := run_getf (mo_160 35 rfl) rfl rfl
theorem r160_38 : Runs xs sl d 160 38 [l0, l1, l2, l3, l4] [.int u1, .int u0] H r ↔ if u1 ≤ u0 then Runs xs sl d 160 73 [l0, l1, l2, l3, l4] [] H r else Runs xs sl d 160 41 [l0, l1, l2, l3, l4] [] H r := run_if (mo_160 38 rfl) rfl
theorem r160_41 : Runs xs sl d 160 41 [l0, l1, some (.int i2), l3, l4] [] H r ↔ Runs xs sl d 160 42 [l0, l1, some (.int i2), l3, l4] [.int i2] H r := run_step (mo_160 41 rfl) rfl
theorem r160_42 : Runs xs sl d 160 42 [some (.ref a0), l1, l2, l3, l4] [s0] H r ↔ Runs xs sl d 160 43 [some (.ref a0), l1, l2, l3, l4] [.ref a0, s0] H r := run_step (mo_160 42 rfl) rfl
theorem r160_43 : Runs xs sl d 160 43 [l0, l1, l2, l3, some (.int i4)] [s1, s0] H r ↔ Runs xs sl d 160 45 [l0, l1, l2, l3, some (.int i4)] [.int i4, s1, s0] H r := run_step (mo_160 43 rfl) rfl
theorem r160_45 : Runs xs sl d 160 45 [l0, some (.int i1), l2, l3, l4] [s2, s1, s0] H r ↔ Runs xs sl d 160 46 [l0, some (.int i1), l2, l3, l4] [.int i1, s2, s1, s0] H r := run_step (mo_160 45 rfl) rfl
theorem r160_46 (hc : hC H b1 = some 8) : Runs xs sl (d + 1) 160 46 [l0, l1, l2, l3, l4] [.int u3, .int u2, .ref b1, .int u0] H r ↔ ∃ v H1, Runs xs sl d 161 0 [some (.ref b1), some (.int u2), some (.int u3)] [] H (v, H1) ∧ Runs xs sl (d + 1) 160 49 [l0, l1, l2, l3, l4] (v.toList ++ [.int u0]) H1 r := run_callV (M' := 161) (as := [.int u2, .int u3]) (rest := [.int u0]) (mo_160 46 rfl) rfl rfl rfl (Nat.le_of_ble_eq_true rfl) (Nat.le_of_ble_eq_true rfl) rfl rfl hc
theorem r160_49 : Runs xs sl d 160 49 [l0, l1, l2, l3, l4] [.int u1, .int u0] H r ↔ Runs xs sl d 160 50 [l0, l1, l2, l3, l4] [.int (u0 - u1)] H r := run_step (mo_160 49 rfl) rfl
theorem r160_50 : Runs xs sl (d + 1) 160 50 [l0, l1, l2, l3, l4] [.int u0] H r ↔ ∃ v H1, Runs xs sl d 286 0 [some (.int u0)] [] H (v, H1) ∧ Runs xs sl (d + 1) 160 53 [l0, l1, l2, l3, l4] (v.toList ++ []) H1 r := run_callS (M' := 286) (as := [.int u0]) (rest := []) (mo_160 50 rfl) rfl rfl (Nat.le_of_ble_eq_true rfl) (Nat.le_of_ble_eq_true rfl) rfl rfl
theorem r160_53 : Runs xs sl d 160 53 [l0, l1, some (.int i2), l3, l4] [s0] H r ↔ Runs xs sl d 160 54 [l0, l1, some (.int i2), l3, l4] [.int i2, s0] H r := run_step (mo_160 53 rfl) rfl
theorem r160_54 : Runs xs sl (d + 1) 160 54 [l0, l1, l2, l3, l4] [.int u1, .int u0] H r ↔ ∃ v H1, Runs xs sl d 286 0 [some (.int u1)] [] H (v, H1) ∧ Runs xs sl (d + 1) 160 57 [l0, l1, l2, l3, l4] (v.toList ++ [.int u0]) H1 r := run_callS (M' := 286) (as := [.int u1]) (rest := [.int u0]) (mo_160 54 rfl) rfl rfl (Nat.le_of_ble_eq_true rfl) (Nat.le_of_ble_eq_true rfl) rfl rfl
theorem r160_57 : Runs xs sl d 160 57 [l0, l1, l2, l3, l4] [.int u1, .int u0] H r ↔ if u0 = u1 then Runs xs sl d 160 67 [l0, l1, l2, l3, l4] [] H r else Runs xs sl d 160 60 [l0, l1, l2, l3, l4] [] H r := run_if (mo_160 57 rfl) rfl
theorem r160_60 : Runs xs sl d 160 60 [l0, l1, l2, some (.int i3), l4] [] H r ↔ Runs xs sl d 160 61 [l0, l1, l2, some (.int i3), l4] [.int i3] H r := run_step (mo_160 60 rfl) rfl
theorem r160_61 : Runs xs sl d 160 61 [l0, l1, l2, l3, l4] [s0] H r ↔ Runs xs sl d 160 62 [l0, l1, l2, l3, l4] [.int 1, s0] H r := run_step (mo_160 61 rfl) rfl
theorem r160_62 : Runs xs sl d 160 62 [l0, l1, l2, l3, some (.int i4)] [s1, s0] H r ↔ Runs xs sl d 160 64 [l0, l1, l2, l3, some (.int i4)] [.int i4, s1, s0] H r := run_step (mo_160 62 rfl) rfl
theorem r160_64 : Runs xs sl d 160 64 [l0, l1, l2, l3, l4] [.int u2, .int u1, s0] H r ↔ Runs xs sl d 160 65 [l0, l1, l2, l3, l4] [.int (u1 <<< (u2 &&& 31)), s0] H r := run_step (mo_160 64 rfl) rfl
theorem r160_65 : Runs xs sl d 160 65 [l0, l1, l2, l3, l4] [.int u1, .int u0] H r ↔ Runs xs sl d 160 66 [l0, l1, l2, l3, l4] [.int (u0 ||| u1)] H r := run_step (mo_160 65 rfl) rfl
theorem r160_66 : Runs xs sl d 160 66 [l0, l1, some (.int i2), l3, l4] [.int u0] H r ↔ Runs xs sl d 160 67 [l0, l1, some (.int i2), some (.int u0), l4] [] H r := run_step (mo_160 66 rfl) rfl
theorem r160_67 : Runs xs sl d 160 67 [l0, l1, l2, some (.int i3), some (.int i4)] [] H r ↔ Runs xs sl d 160 70 [l0, l1, l2, some (.int i3), some (.int (i4 + 1))] [] H r := run_step (mo_160 67 rfl) rfl
theorem r160_70 : Runs xs sl d 160 70 [l0, l1, l2, l3, l4] [] H r ↔ Runs xs sl d 160 32 [l0, l1, l2, l3, l4] [] H r := run_step (mo_160 70 rfl) rfl
theorem r160_73 : Runs xs sl d 160 73 [l0, l1, l2, some (.int i3), l4] [] H r ↔ Runs xs sl d 160 74 [l0, l1, l2, some (.int i3), l4] [.int i3] H r := run_step (mo_160 73 rfl) rfl
theorem r160_74 : Runs xs sl d 160 74 [l0, l1, l2, l3, l4] [.int u0] H r ↔ r = (some (.int u0), H) := run_ret (mo_160 74 rfl) rfl
theorem mo_161 (pc : Nat) {i : Instr} (h : mt_161.lookup pc = some i) : mop 161 pc = some i := h
theorem r161_0 : Runs xs sl d 161 0 [some (.ref a0), l1, l2] [] H r ↔ Runs xs sl d 161 1 [some (.ref a0), l1, l2] [.ref a0] H r := run_step (mo_161 0 rfl) rfl
theorem r161_1 : Runs xs sl d 161 1 [l0, l1, l2] [.ref b0] H r ↔ ∃ v, hO H b0 8 5 = some v ∧ Runs xs sl d 161 4 [l0, l1, l2] [v] H r := run_getf (mo_161 1 rfl) rfl rfl
theorem r161_4 : Runs xs sl d 161 4 [l0, some (.int i1), l2] [s0] H r ↔ Runs xs sl d 161 5 [l0, some (.int i1), l2] [.int i1, s0] H r := run_step (mo_161 4 rfl) rfl
theorem r161_5 : Runs xs sl d 161 5 [l0, l1, l2] [.int u1, .ref b0] H r ↔ ∃ v, hA H b0 0 u1 = some v ∧ Runs xs sl d 161 6 [l0, l1, l2] [.int v] H r := run_iald (mo_161 5 rfl) rfl
theorem r161_6 : Runs xs sl d 161 6 [some (.ref a0), l1, l2] [s0] H r ↔ Runs xs sl d 161 7 [some (.ref a0), l1, l2] [.ref a0, s0] H r := run_step (mo_161 6 rfl) rfl
theorem r161_7 : Runs xs sl d 161 7 [l0, l1, l2] [.ref b1, s0] H r ↔ ∃ v, hO H b1 8 8 = some v ∧ Runs xs sl d 161 10 [l0, l1, l2] [v, s0] H r := run_getf (mo_161 7 rfl) rfl rfl
theorem r161_10 : Runs xs sl d 161 10 [l0, some (.int i1), l2] [s1, s0] H r ↔ Runs xs sl d 161 11 [l0, some (.int i1), l2] [.int i1, s1, s0] H r := run_step (mo_161 10 rfl) rfl
theorem r161_11 : Runs xs sl d 161 11 [l0, l1, l2] [s2, s1, s0] H r ↔ Runs xs sl d 161 13 [l0, l1, l2] [.int 6, s2, s1, s0] H r := run_step (mo_161 11 rfl) rfl
theorem r161_13 : Runs xs sl d 161 13 [l0, l1, l2] [.int u3, .int u2, s1, s0] H r ↔ Runs xs sl d 161 14 [l0, l1, l2] [.int (u2 * u3), s1, s0] H r := run_step (mo_161 13 rfl) rfl
theorem r161_14 : Runs xs sl d 161 14 [l0, l1, some (.int i2)] [s2, s1, s0] H r ↔ Runs xs sl d 161 15 [l0, l1, some (.int i2)] [.int i2, s2, s1, s0] H r := run_step (mo_161 14 rfl) rfl
theorem r161_15 : Runs xs sl d 161 15 [l0, l1, l2] [.int u3, .int u2, s1, s0] H r ↔ Runs xs sl d 161 16 [l0, l1, l2] [.int (u2 + u3), s1, s0] H r := run_step (mo_161 15 rfl) rfl
theorem r161_16 : Runs xs sl d 161 16 [l0, l1, l2] [.int u2, .ref b1, s0] H r ↔ ∃ v, hA H b1 0 u2 = some v ∧ Runs xs sl d 161 17 [l0, l1, l2] [.int v, s0] H r := run_iald (mo_161 16 rfl) rfl
theorem r161_17 : Runs xs sl (d + 1) 161 17 [l0, l1, l2] [.int u1, .int u0] H r ↔ ∃ v H1, Runs xs sl d 286 0 [some (.int u1)] [] H (v, H1) ∧ Runs xs sl (d + 1) 161 20 [l0, l1, l2] (v.toList ++ [.int u0]) H1 r := run_callS (M' := 286) (as := [.int u1]) (rest := [.int u0]) (mo_161 17 rfl) rfl rfl (Nat.le_of_ble_eq_true rfl) (Nat.le_of_ble_eq_true rfl) rfl rfl
theorem r161_20 : Runs xs sl d 161 20 [l0, l1, l2] [.int u1, .int u0] H r ↔ Runs xs sl d 161 21 [l0, l1, l2] [.int (u0 * u1)] H r := run_step (mo_161 20 rfl) rfl
theorem r161_21 : Runs xs sl d 161 21 [l0, l1, l2] [.int u0] H r ↔ r = (some (.int u0), H) := run_ret (mo_161 21 rfl) rfl
end ROWS
