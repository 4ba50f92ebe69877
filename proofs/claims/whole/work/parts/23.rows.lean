/-! ROWS, printed by wip/whole/rows.py: 115:145 -/
section ROWS
variable {xs : Nat → Int32} {sl d : Nat} {H : mH} {r : Option Value × mH} {l0 l1 l2 l3 l4 l5 l6 l7 l8 l9 l10 l11 : Option Value} {s0 s1 s2 s3 s4 s5 s6 s7 s8 s9 s10 s11 : Value} {i0 i1 i2 i3 i4 i5 i6 i7 i8 i9 i10 i11 : Int32} {j0 j1 j2 j3 j4 j5 j6 j7 j8 j9 j10 j11 : Int64} {a0 a1 a2 a3 a4 a5 a6 a7 a8 a9 a10 a11 : Nat} {u0 u1 u2 u3 u4 u5 u6 u7 u8 u9 u10 u11 : Int32} {w0 w1 w2 w3 w4 w5 w6 w7 w8 w9 w10 w11 : Int64} {b0 b1 b2 b3 b4 b5 b6 b7 b8 b9 b10 b11 : Nat}
theorem r115_0 : Runs xs sl d 115 0 [some (.ref a0)] [] H r ↔ Runs xs sl d 115 1 [some (.ref a0)] [.ref a0] H r := q_aload_n (mo_115 0 rfl) rfl rfl
theorem r115_1 : Runs xs sl (d + 1) 115 1 [l0] [.ref b0] H r ↔ ∃ v H1, Runs xs sl d 292 0 [some (.ref b0)] [] H (v, H1) ∧ Runs xs sl (d + 1) 115 4 [l0] (v.toList ++ []) H1 r := q_callI (M' := 292) (as := []) (rest := []) (mo_115 1 rfl) mow_115 rfl mmx_292 rfl (Nat.le_of_ble_eq_true rfl) (Nat.le_of_ble_eq_true rfl) rfl rfl
theorem r115_4 : Runs xs sl d 115 4 [some (.ref a0)] [] H r ↔ Runs xs sl d 115 5 [some (.ref a0)] [.ref a0] H r := q_aload_n (mo_115 4 rfl) rfl rfl
theorem r115_5 : Runs xs sl d 115 5 [l0] [s0] H r ↔ Runs xs sl d 115 8 [l0] [.ref H.2.1, s0] (mnew H (mO 8 (fun k => mdef (mTy 8 k))) 12) r := q_new (mo_115 5 rfl) mow_115 rfl rfl rfl
theorem r115_8 : Runs xs sl d 115 8 [l0] [.ref b1, s0] H r ↔ Runs xs sl d 115 9 [l0] [.ref b1, .ref b1, s0] H r := q_dup (mo_115 8 rfl) rfl rfl
theorem r115_9 : Runs xs sl (d + 1) 115 9 [l0] [.ref b2, .ref b1, .ref b0] H r ↔ ∃ v H1, Runs xs sl d 148 0 [some (.ref b2)] [] H (v, H1) ∧ Runs xs sl (d + 1) 115 12 [l0] (v.toList ++ [.ref b1, .ref b0]) H1 r := q_callI (M' := 148) (as := []) (rest := [.ref b1, .ref b0]) (mo_115 9 rfl) mow_115 rfl mmx_148 rfl (Nat.le_of_ble_eq_true rfl) (Nat.le_of_ble_eq_true rfl) rfl rfl
theorem r115_12 : Runs xs sl d 115 12 [l0] [.ref b1, .ref b0] H r ↔ ∃ H1, hOw H b0 6 0 (.ref b1) = some H1 ∧ Runs xs sl d 115 15 [l0] [] H1 r := q_putf (mo_115 12 rfl) mow_115 rfl rfl (by decide +kernel) rfl
theorem r115_15 : Runs xs sl d 115 15 [some (.ref a0)] [] H r ↔ Runs xs sl d 115 16 [some (.ref a0)] [.ref a0] H r := q_aload_n (mo_115 15 rfl) rfl rfl
theorem r115_16 : Runs xs sl d 115 16 [l0] [s0] H r ↔ Runs xs sl d 115 18 [l0] [.int 48, s0] H r := q_bipush (mo_115 16 rfl) rfl rfl
theorem r115_18 (h : ¬ (u1 < 0 ∨ 100000 < u1.toNatClampNeg)) : Runs xs sl d 115 18 [l0] [.int u1, s0] H r ↔ Runs xs sl d 115 20 [l0] [.ref H.2.1, s0] (mnew H (mI 0 u1.toNatClampNeg (fun _ => 0)) u1.toNatClampNeg) r := q_newa_int (mo_115 18 rfl) rfl h
theorem r115_20 : Runs xs sl d 115 20 [l0] [.ref b1, .ref b0] H r ↔ ∃ H1, hOw H b0 6 2 (.ref b1) = some H1 ∧ Runs xs sl d 115 23 [l0] [] H1 r := q_putf (mo_115 20 rfl) mow_115 rfl rfl (by decide +kernel) rfl
theorem r115_23 : Runs xs sl d 115 23 [some (.ref a0)] [] H r ↔ Runs xs sl d 115 24 [some (.ref a0)] [.ref a0] H r := q_aload_n (mo_115 23 rfl) rfl rfl
theorem r115_24 : Runs xs sl d 115 24 [l0] [s0] H r ↔ Runs xs sl d 115 26 [l0] [.int 96, s0] H r := q_bipush (mo_115 24 rfl) rfl rfl
theorem r115_26 (h : ¬ (u1 < 0 ∨ 100000 < u1.toNatClampNeg)) : Runs xs sl d 115 26 [l0] [.int u1, s0] H r ↔ Runs xs sl d 115 28 [l0] [.ref H.2.1, s0] (mnew H (mI 0 u1.toNatClampNeg (fun _ => 0)) u1.toNatClampNeg) r := q_newa_int (mo_115 26 rfl) rfl h
theorem r115_28 : Runs xs sl d 115 28 [l0] [.ref b1, .ref b0] H r ↔ ∃ H1, hOw H b0 6 3 (.ref b1) = some H1 ∧ Runs xs sl d 115 31 [l0] [] H1 r := q_putf (mo_115 28 rfl) mow_115 rfl rfl (by decide +kernel) rfl
theorem r115_31 : Runs xs sl d 115 31 [some (.ref a0)] [] H r ↔ Runs xs sl d 115 32 [some (.ref a0)] [.ref a0] H r := q_aload_n (mo_115 31 rfl) rfl rfl
theorem r115_32 : Runs xs sl d 115 32 [l0] [s0] H r ↔ Runs xs sl d 115 34 [l0] [.int 16, s0] H r := q_bipush (mo_115 32 rfl) rfl rfl
theorem r115_34 (h : ¬ (u1 < 0 ∨ 100000 < u1.toNatClampNeg)) : Runs xs sl d 115 34 [l0] [.int u1, s0] H r ↔ Runs xs sl d 115 36 [l0] [.ref H.2.1, s0] (mnew H (mI 0 u1.toNatClampNeg (fun _ => 0)) u1.toNatClampNeg) r := q_newa_int (mo_115 34 rfl) rfl h
theorem r115_36 : Runs xs sl d 115 36 [l0] [.ref b1, .ref b0] H r ↔ ∃ H1, hOw H b0 6 5 (.ref b1) = some H1 ∧ Runs xs sl d 115 39 [l0] [] H1 r := q_putf (mo_115 36 rfl) mow_115 rfl rfl (by decide +kernel) rfl
theorem r115_39 : Runs xs sl d 115 39 [some (.ref a0)] [] H r ↔ Runs xs sl d 115 40 [some (.ref a0)] [.ref a0] H r := q_aload_n (mo_115 39 rfl) rfl rfl
theorem r115_40 : Runs xs sl d 115 40 [l0] [s0] H r ↔ Runs xs sl d 115 42 [l0] [.int 16, s0] H r := q_bipush (mo_115 40 rfl) rfl rfl
theorem r115_42 (h : ¬ (u1 < 0 ∨ 100000 < u1.toNatClampNeg)) : Runs xs sl d 115 42 [l0] [.int u1, s0] H r ↔ Runs xs sl d 115 44 [l0] [.ref H.2.1, s0] (mnew H (mI 0 u1.toNatClampNeg (fun _ => 0)) u1.toNatClampNeg) r := q_newa_int (mo_115 42 rfl) rfl h
theorem r115_44 : Runs xs sl d 115 44 [l0] [.ref b1, .ref b0] H r ↔ ∃ H1, hOw H b0 6 6 (.ref b1) = some H1 ∧ Runs xs sl d 115 47 [l0] [] H1 r := q_putf (mo_115 44 rfl) mow_115 rfl rfl (by decide +kernel) rfl
theorem r115_47 : Runs xs sl d 115 47 [some (.ref a0)] [] H r ↔ Runs xs sl d 115 48 [some (.ref a0)] [.ref a0] H r := q_aload_n (mo_115 47 rfl) rfl rfl
theorem r115_48 : Runs xs sl d 115 48 [l0] [s0] H r ↔ Runs xs sl d 115 50 [l0] [.int 16, s0] H r := q_bipush (mo_115 48 rfl) rfl rfl
theorem r115_50 (h : ¬ (u1 < 0 ∨ 100000 < u1.toNatClampNeg)) : Runs xs sl d 115 50 [l0] [.int u1, s0] H r ↔ Runs xs sl d 115 52 [l0] [.ref H.2.1, s0] (mnew H (mI 2 u1.toNatClampNeg (fun _ => 0)) u1.toNatClampNeg) r := q_newa_boolean (mo_115 50 rfl) rfl h
theorem r115_52 : Runs xs sl d 115 52 [l0] [.ref b1, .ref b0] H r ↔ ∃ H1, hOw H b0 6 7 (.ref b1) = some H1 ∧ Runs xs sl d 115 55 [l0] [] H1 r := q_putf (mo_115 52 rfl) mow_115 rfl rfl (by decide +kernel) rfl
theorem r115_55 : Runs xs sl d 115 55 [some (.ref a0)] [] H r ↔ Runs xs sl d 115 56 [some (.ref a0)] [.ref a0] H r := q_aload_n (mo_115 55 rfl) rfl rfl
theorem r115_56 : Runs xs sl d 115 56 [l0] [s0] H r ↔ Runs xs sl d 115 58 [l0] [.int 24, s0] H r := q_bipush (mo_115 56 rfl) rfl rfl
theorem r115_58 (h : ¬ (u1 < 0 ∨ 100000 < u1.toNatClampNeg)) : Runs xs sl d 115 58 [l0] [.int u1, s0] H r ↔ Runs xs sl d 115 60 [l0] [.ref H.2.1, s0] (mnew H (mI 0 u1.toNatClampNeg (fun _ => 0)) u1.toNatClampNeg) r := q_newa_int (mo_115 58 rfl) rfl h
theorem r115_60 : Runs xs sl d 115 60 [l0] [.ref b1, .ref b0] H r ↔ ∃ H1, hOw H b0 6 8 (.ref b1) = some H1 ∧ Runs xs sl d 115 63 [l0] [] H1 r := q_putf (mo_115 60 rfl) mow_115 rfl rfl (by decide +kernel) rfl
theorem r115_63 : Runs xs sl d 115 63 [some (.ref a0)] [] H r ↔ Runs xs sl d 115 64 [some (.ref a0)] [.ref a0] H r := q_aload_n (mo_115 63 rfl) rfl rfl
theorem r115_64 : Runs xs sl d 115 64 [l0] [s0] H r ↔ Runs xs sl d 115 66 [l0] [.int 24, s0] H r := q_bipush (mo_115 64 rfl) rfl rfl
theorem r115_66 (h : ¬ (u1 < 0 ∨ 100000 < u1.toNatClampNeg)) : Runs xs sl d 115 66 [l0] [.int u1, s0] H r ↔ Runs xs sl d 115 68 [l0] [.ref H.2.1, s0] (mnew H (mI 0 u1.toNatClampNeg (fun _ => 0)) u1.toNatClampNeg) r := q_newa_int (mo_115 66 rfl) rfl h
theorem r115_68 : Runs xs sl d 115 68 [l0] [.ref b1, .ref b0] H r ↔ ∃ H1, hOw H b0 6 9 (.ref b1) = some H1 ∧ Runs xs sl d 115 71 [l0] [] H1 r := q_putf (mo_115 68 rfl) mow_115 rfl rfl (by decide +kernel) rfl
theorem r115_71 : Runs xs sl d 115 71 [some (.ref a0)] [] H r ↔ Runs xs sl d 115 72 [some (.ref a0)] [.ref a0] H r := q_aload_n (mo_115 71 rfl) rfl rfl
theorem r115_72 : Runs xs sl d 115 72 [l0] [s0] H r ↔ Runs xs sl d 115 73 [l0] [.int 4, s0] H r := q_iconst (mo_115 72 rfl) rfl rfl
theorem r115_73 (h : ¬ (u1 < 0 ∨ 100000 < u1.toNatClampNeg)) : Runs xs sl d 115 73 [l0] [.int u1, s0] H r ↔ Runs xs sl d 115 75 [l0] [.ref H.2.1, s0] (mnew H (mI 0 u1.toNatClampNeg (fun _ => 0)) u1.toNatClampNeg) r := q_newa_int (mo_115 73 rfl) rfl h
theorem r115_75 : Runs xs sl d 115 75 [l0] [.ref b1, .ref b0] H r ↔ ∃ H1, hOw H b0 6 10 (.ref b1) = some H1 ∧ Runs xs sl d 115 78 [l0] [] H1 r := q_putf (mo_115 75 rfl) mow_115 rfl rfl (by decide +kernel) rfl
theorem r115_78 : Runs xs sl d 115 78 [some (.ref a0)] [] H r ↔ Runs xs sl d 115 79 [some (.ref a0)] [.ref a0] H r := q_aload_n (mo_115 78 rfl) rfl rfl
theorem r115_79 : Runs xs sl d 115 79 [l0] [s0] H r ↔ Runs xs sl d 115 81 [l0] [.int 16, s0] H r := q_bipush (mo_115 79 rfl) rfl rfl
theorem r115_81 (h : ¬ (u1 < 0 ∨ 100000 < u1.toNatClampNeg)) : Runs xs sl d 115 81 [l0] [.int u1, s0] H r ↔ Runs xs sl d 115 83 [l0] [.ref H.2.1, s0] (mnew H (mI 0 u1.toNatClampNeg (fun _ => 0)) u1.toNatClampNeg) r := q_newa_int (mo_115 81 rfl) rfl h
theorem r115_83 : Runs xs sl d 115 83 [l0] [.ref b1, .ref b0] H r ↔ ∃ H1, hOw H b0 6 11 (.ref b1) = some H1 ∧ Runs xs sl d 115 86 [l0] [] H1 r := q_putf (mo_115 83 rfl) mow_115 rfl rfl (by decide +kernel) rfl
theorem r115_86 : Runs xs sl d 115 86 [l0] [] H r ↔ r = (none, H) := q_ret (mo_115 86 rfl) mrt_115
theorem r116_0 : Runs xs sl d 116 0 [some (.ref a0), l1, l2] [] H r ↔ Runs xs sl d 116 1 [some (.ref a0), l1, l2] [.ref a0] H r := q_aload_n (mo_116 0 rfl) rfl rfl
theorem r116_1 : Runs xs sl d 116 1 [l0, some (.ref a1), l2] [s0] H r ↔ Runs xs sl d 116 2 [l0, some (.ref a1), l2] [.ref a1, s0] H r := q_aload_n (mo_116 1 rfl) rfl rfl
theorem r116_1n : Runs xs sl d 116 1 [l0, some .null, l2] [s0] H r ↔ Runs xs sl d 116 2 [l0, some .null, l2] [.null, s0] H r := q_aload_nN (mo_116 1 rfl) rfl rfl
theorem r116_2 : Runs xs sl d 116 2 [l0, l1, l2] [.ref b1, .ref b0] H r ↔ ∃ H1, hOw H b0 6 0 (.ref b1) = some H1 ∧ Runs xs sl d 116 5 [l0, l1, l2] [] H1 r := q_putf (mo_116 2 rfl) mow_116 rfl rfl (by decide +kernel) rfl
theorem r116_5 : Runs xs sl d 116 5 [some (.ref a0), l1, l2] [] H r ↔ Runs xs sl d 116 6 [some (.ref a0), l1, l2] [.ref a0] H r := q_aload_n (mo_116 5 rfl) rfl rfl
theorem r116_6 : Runs xs sl d 116 6 [l0, l1, l2] [s0] H r ↔ Runs xs sl d 116 7 [l0, l1, l2] [.int 0, s0] H r := q_iconst (mo_116 6 rfl) rfl rfl
theorem r116_7 : Runs xs sl d 116 7 [l0, l1, l2] [.int u1, .ref b0] H r ↔ ∃ H1, hOw H b0 6 4 (.int u1) = some H1 ∧ Runs xs sl d 116 10 [l0, l1, l2] [] H1 r := q_putf (mo_116 7 rfl) mow_116 rfl rfl (by decide +kernel) rfl
theorem r116_10 : Runs xs sl d 116 10 [some (.ref a0), l1, l2] [] H r ↔ Runs xs sl d 116 11 [some (.ref a0), l1, l2] [.ref a0] H r := q_aload_n (mo_116 10 rfl) rfl rfl
theorem r116_11 : Runs xs sl d 116 11 [l0, l1, l2] [s0] H r ↔ Runs xs sl d 116 12 [l0, l1, l2] [.int 0, s0] H r := q_iconst (mo_116 11 rfl) rfl rfl
theorem r116_12 : Runs xs sl d 116 12 [l0, l1, l2] [.int u1, .ref b0] H r ↔ ∃ H1, hOw H b0 6 1 (.int u1) = some H1 ∧ Runs xs sl d 116 15 [l0, l1, l2] [] H1 r := q_putf (mo_116 12 rfl) mow_116 rfl rfl (by decide +kernel) rfl
theorem r116_15 : Runs xs sl d 116 15 [l0, some (.ref a1), l2] [] H r ↔ Runs xs sl d 116 16 [l0, some (.ref a1), l2] [.ref a1] H r := q_aload_n (mo_116 15 rfl) rfl rfl
theorem r116_15n : Runs xs sl d 116 15 [l0, some .null, l2] [] H r ↔ Runs xs sl d 116 16 [l0, some .null, l2] [.null] H r := q_aload_nN (mo_116 15 rfl) rfl rfl
theorem r116_16 : Runs xs sl d 116 16 [l0, l1, l2] [.ref b0] H r ↔ ∃ v, hO H b0 8 8 = some v ∧ Runs xs sl d 116 19 [l0, l1, l2] [v] H r := q_getf (mo_116 16 rfl) mow_116 rfl rfl
theorem r116_19 : Runs xs sl d 116 19 [l0, l1, l2] [s0] H r ↔ Runs xs sl d 116 20 [l0, l1, l2] [.int 0, s0] H r := q_iconst (mo_116 19 rfl) rfl rfl
theorem r116_20 : Runs xs sl d 116 20 [some (.ref a0), l1, l2] [s1, s0] H r ↔ Runs xs sl d 116 21 [some (.ref a0), l1, l2] [.ref a0, s1, s0] H r := q_aload_n (mo_116 20 rfl) rfl rfl
theorem r116_21 : Runs xs sl d 116 21 [l0, l1, l2] [.ref b2, s1, s0] H r ↔ ∃ v, hO H b2 6 2 = some v ∧ Runs xs sl d 116 24 [l0, l1, l2] [v, s1, s0] H r := q_getf (mo_116 21 rfl) mow_116 rfl rfl
theorem r116_24 : Runs xs sl d 116 24 [l0, l1, l2] [s2, s1, s0] H r ↔ Runs xs sl d 116 25 [l0, l1, l2] [.int 0, s2, s1, s0] H r := q_iconst (mo_116 24 rfl) rfl rfl
theorem r116_25 : Runs xs sl d 116 25 [l0, l1, l2] [s3, s2, s1, s0] H r ↔ Runs xs sl d 116 27 [l0, l1, l2] [.int 48, s3, s2, s1, s0] H r := q_bipush (mo_116 25 rfl) rfl rfl
theorem r116_27 : Runs xs sl (d + 1) 116 27 [l0, l1, l2] [.int u4, .int u3, .ref b2, .int u1, .ref b0] H r ↔ ∃ H1, hCp H b0 b2 u1 u3 u4 = some H1 ∧ Runs xs sl (d + 1) 116 30 [l0, l1, l2] [] H1 r := q_copy (mo_116 27 rfl) mow_116 rfl (Nat.le_of_ble_eq_true rfl) rfl
theorem r116_30 : Runs xs sl d 116 30 [some (.ref a0), l1, l2] [] H r ↔ Runs xs sl d 116 31 [some (.ref a0), l1, l2] [.ref a0] H r := q_aload_n (mo_116 30 rfl) rfl rfl
theorem r116_31 : Runs xs sl d 116 31 [l0, l1, l2] [.ref b0] H r ↔ ∃ v, hO H b0 6 8 = some v ∧ Runs xs sl d 116 34 [l0, l1, l2] [v] H r := q_getf (mo_116 31 rfl) mow_116 rfl rfl
theorem r116_34 : Runs xs sl d 116 34 [l0, l1, l2] [s0] H r ↔ Runs xs sl d 116 35 [l0, l1, l2] [.int 0, s0] H r := q_iconst (mo_116 34 rfl) rfl rfl
theorem r116_35 : Runs xs sl (d + 1) 116 35 [l0, l1, l2] [.int u1, .ref b0] H r ↔ ∃ v H1, Runs xs sl d 291 0 [some (.ref b0), some (.int u1), none, none] [] H (v, H1) ∧ Runs xs sl (d + 1) 116 38 [l0, l1, l2] (v.toList ++ []) H1 r := q_callS (M' := 291) (as := [.ref b0, .int u1]) (rest := []) (mo_116 35 rfl) mow_116 rfl mmx_291 rfl (Nat.le_of_ble_eq_true rfl) (Nat.le_of_ble_eq_true rfl) rfl rfl
theorem r116_38 : Runs xs sl d 116 38 [some (.ref a0), l1, l2] [] H r ↔ Runs xs sl d 116 39 [some (.ref a0), l1, l2] [.ref a0] H r := q_aload_n (mo_116 38 rfl) rfl rfl
theorem r116_39 : Runs xs sl d 116 39 [l0, l1, l2] [.ref b0] H r ↔ ∃ v, hO H b0 6 9 = some v ∧ Runs xs sl d 116 42 [l0, l1, l2] [v] H r := q_getf (mo_116 39 rfl) mow_116 rfl rfl
theorem r116_42 : Runs xs sl d 116 42 [l0, l1, l2] [s0] H r ↔ Runs xs sl d 116 43 [l0, l1, l2] [.int 0, s0] H r := q_iconst (mo_116 42 rfl) rfl rfl
theorem r116_43 : Runs xs sl (d + 1) 116 43 [l0, l1, l2] [.int u1, .ref b0] H r ↔ ∃ v H1, Runs xs sl d 291 0 [some (.ref b0), some (.int u1), none, none] [] H (v, H1) ∧ Runs xs sl (d + 1) 116 46 [l0, l1, l2] (v.toList ++ []) H1 r := q_callS (M' := 291) (as := [.ref b0, .int u1]) (rest := []) (mo_116 43 rfl) mow_116 rfl mmx_291 rfl (Nat.le_of_ble_eq_true rfl) (Nat.le_of_ble_eq_true rfl) rfl rfl
theorem r116_46 : Runs xs sl d 116 46 [some (.ref a0), l1, l2] [] H r ↔ Runs xs sl d 116 47 [some (.ref a0), l1, l2] [.ref a0] H r := q_aload_n (mo_116 46 rfl) rfl rfl
theorem r116_47 : Runs xs sl d 116 47 [l0, l1, l2] [.ref b0] H r ↔ ∃ v, hO H b0 6 10 = some v ∧ Runs xs sl d 116 50 [l0, l1, l2] [v] H r := q_getf (mo_116 47 rfl) mow_116 rfl rfl
theorem r116_50 : Runs xs sl d 116 50 [l0, l1, l2] [s0] H r ↔ Runs xs sl d 116 51 [l0, l1, l2] [.int (-1), s0] H r := q_iconst (mo_116 50 rfl) rfl rfl
theorem r116_51 : Runs xs sl (d + 1) 116 51 [l0, l1, l2] [.int u1, .ref b0] H r ↔ ∃ v H1, Runs xs sl d 291 0 [some (.ref b0), some (.int u1), none, none] [] H (v, H1) ∧ Runs xs sl (d + 1) 116 54 [l0, l1, l2] (v.toList ++ []) H1 r := q_callS (M' := 291) (as := [.ref b0, .int u1]) (rest := []) (mo_116 51 rfl) mow_116 rfl mmx_291 rfl (Nat.le_of_ble_eq_true rfl) (Nat.le_of_ble_eq_true rfl) rfl rfl
theorem r116_54 : Runs xs sl d 116 54 [l0, l1, l2] [] H r ↔ Runs xs sl d 116 55 [l0, l1, l2] [.int 0] H r := q_iconst (mo_116 54 rfl) rfl rfl
theorem r116_55 : Runs xs sl d 116 55 [l0, some (.ref a1), l2] [.int u0] H r ↔ Runs xs sl d 116 56 [l0, some (.ref a1), some (.int u0)] [] H r := q_istore_n (mo_116 55 rfl) (Nat.le_of_ble_eq_true rfl) rfl rfl
theorem r116_55_1 : Runs xs sl d 116 55 [l0, some .null, l2] [.int u0] H r ↔ Runs xs sl d 116 56 [l0, some .null, some (.int u0)] [] H r := q_istore_n (mo_116 55 rfl) (Nat.le_of_ble_eq_true rfl) rfl rfl
theorem r116_56 : Runs xs sl d 116 56 [l0, l1, some (.int i2)] [] H r ↔ Runs xs sl d 116 57 [l0, l1, some (.int i2)] [.int i2] H r := q_iload_n (mo_116 56 rfl) rfl rfl
theorem r116_57 : Runs xs sl d 116 57 [l0, some (.ref a1), l2] [s0] H r ↔ Runs xs sl d 116 58 [l0, some (.ref a1), l2] [.ref a1, s0] H r := q_aload_n (mo_116 57 rfl) rfl rfl
theorem r116_57n : Runs xs sl d 116 57 [l0, some .null, l2] [s0] H r ↔ Runs xs sl d 116 58 [l0, some .null, l2] [.null, s0] H r := q_aload_nN (mo_116 57 rfl) rfl rfl
theorem r116_58 : Runs xs sl d 116 58 [l0, l1, l2] [.ref b1, s0] H r ↔ ∃ v, hO H b1 8 3 = some v ∧ Runs xs sl d 116 61 [l0, l1, l2] [v, s0] H r := q_getf (mo_116 58 rfl) mow_116 rfl rfl
theorem r116_61 : Runs xs sl d 116 61 [l0, l1, l2] [.int u1, .int u0] H r ↔ if u1 ≤ u0 then Runs xs sl d 116 103 [l0, l1, l2] [] H r else Runs xs sl d 116 64 [l0, l1, l2] [] H r := q_icmp_ge (mo_116 61 rfl) rfl rfl
theorem r116_64 : Runs xs sl d 116 64 [some (.ref a0), l1, l2] [] H r ↔ Runs xs sl d 116 65 [some (.ref a0), l1, l2] [.ref a0] H r := q_aload_n (mo_116 64 rfl) rfl rfl
theorem r116_65 : Runs xs sl d 116 65 [l0, some (.ref a1), l2] [s0] H r ↔ Runs xs sl d 116 66 [l0, some (.ref a1), l2] [.ref a1, s0] H r := q_aload_n (mo_116 65 rfl) rfl rfl
theorem r116_65n : Runs xs sl d 116 65 [l0, some .null, l2] [s0] H r ↔ Runs xs sl d 116 66 [l0, some .null, l2] [.null, s0] H r := q_aload_nN (mo_116 65 rfl) rfl rfl
theorem r116_66 : Runs xs sl d 116 66 [l0, l1, l2] [.ref b1, s0] H r ↔ ∃ v, hO H b1 8 9 = some v ∧ Runs xs sl d 116 69 [l0, l1, l2] [v, s0] H r := q_getf (mo_116 66 rfl) mow_116 rfl rfl
theorem r116_69 : Runs xs sl d 116 69 [l0, l1, some (.int i2)] [s1, s0] H r ↔ Runs xs sl d 116 70 [l0, l1, some (.int i2)] [.int i2, s1, s0] H r := q_iload_n (mo_116 69 rfl) rfl rfl
theorem r116_70 : Runs xs sl d 116 70 [l0, l1, l2] [s2, s1, s0] H r ↔ Runs xs sl d 116 71 [l0, l1, l2] [.int 3, s2, s1, s0] H r := q_iconst (mo_116 70 rfl) rfl rfl
theorem r116_71 : Runs xs sl d 116 71 [l0, l1, l2] [.int u3, .int u2, s1, s0] H r ↔ Runs xs sl d 116 72 [l0, l1, l2] [.int (u2 * u3), s1, s0] H r := q_imul (mo_116 71 rfl) rfl
theorem r116_72 : Runs xs sl d 116 72 [l0, l1, l2] [.int u2, .ref b1, s0] H r ↔ ∃ v, hA H b1 0 u2 = some v ∧ Runs xs sl d 116 73 [l0, l1, l2] [.int v, s0] H r := run_iald (mo_116 72 rfl) rfl
theorem r116_73 : Runs xs sl d 116 73 [l0, some (.ref a1), l2] [s1, s0] H r ↔ Runs xs sl d 116 74 [l0, some (.ref a1), l2] [.ref a1, s1, s0] H r := q_aload_n (mo_116 73 rfl) rfl rfl
theorem r116_73n : Runs xs sl d 116 73 [l0, some .null, l2] [s1, s0] H r ↔ Runs xs sl d 116 74 [l0, some .null, l2] [.null, s1, s0] H r := q_aload_nN (mo_116 73 rfl) rfl rfl
theorem r116_74 : Runs xs sl d 116 74 [l0, l1, l2] [.ref b2, s1, s0] H r ↔ ∃ v, hO H b2 8 9 = some v ∧ Runs xs sl d 116 77 [l0, l1, l2] [v, s1, s0] H r := q_getf (mo_116 74 rfl) mow_116 rfl rfl
theorem r116_77 : Runs xs sl d 116 77 [l0, l1, some (.int i2)] [s2, s1, s0] H r ↔ Runs xs sl d 116 78 [l0, l1, some (.int i2)] [.int i2, s2, s1, s0] H r := q_iload_n (mo_116 77 rfl) rfl rfl
theorem r116_78 : Runs xs sl d 116 78 [l0, l1, l2] [s3, s2, s1, s0] H r ↔ Runs xs sl d 116 79 [l0, l1, l2] [.int 3, s3, s2, s1, s0] H r := q_iconst (mo_116 78 rfl) rfl rfl
theorem r116_79 : Runs xs sl d 116 79 [l0, l1, l2] [.int u4, .int u3, s2, s1, s0] H r ↔ Runs xs sl d 116 80 [l0, l1, l2] [.int (u3 * u4), s2, s1, s0] H r := q_imul (mo_116 79 rfl) rfl
theorem r116_80 : Runs xs sl d 116 80 [l0, l1, l2] [s3, s2, s1, s0] H r ↔ Runs xs sl d 116 81 [l0, l1, l2] [.int 1, s3, s2, s1, s0] H r := q_iconst (mo_116 80 rfl) rfl rfl
theorem r116_81 : Runs xs sl d 116 81 [l0, l1, l2] [.int u4, .int u3, s2, s1, s0] H r ↔ Runs xs sl d 116 82 [l0, l1, l2] [.int (u3 + u4), s2, s1, s0] H r := q_iadd (mo_116 81 rfl) rfl
theorem r116_82 : Runs xs sl d 116 82 [l0, l1, l2] [.int u3, .ref b2, s1, s0] H r ↔ ∃ v, hA H b2 0 u3 = some v ∧ Runs xs sl d 116 83 [l0, l1, l2] [.int v, s1, s0] H r := run_iald (mo_116 82 rfl) rfl
theorem r116_83 : Runs xs sl d 116 83 [l0, some (.ref a1), l2] [s2, s1, s0] H r ↔ Runs xs sl d 116 84 [l0, some (.ref a1), l2] [.ref a1, s2, s1, s0] H r := q_aload_n (mo_116 83 rfl) rfl rfl
theorem r116_83n : Runs xs sl d 116 83 [l0, some .null, l2] [s2, s1, s0] H r ↔ Runs xs sl d 116 84 [l0, some .null, l2] [.null, s2, s1, s0] H r := q_aload_nN (mo_116 83 rfl) rfl rfl
theorem r116_84 : Runs xs sl d 116 84 [l0, l1, l2] [.ref b3, s2, s1, s0] H r ↔ ∃ v, hO H b3 8 9 = some v ∧ Runs xs sl d 116 87 [l0, l1, l2] [v, s2, s1, s0] H r := q_getf (mo_116 84 rfl) mow_116 rfl rfl
theorem r116_87 : Runs xs sl d 116 87 [l0, l1, some (.int i2)] [s3, s2, s1, s0] H r ↔ Runs xs sl d 116 88 [l0, l1, some (.int i2)] [.int i2, s3, s2, s1, s0] H r := q_iload_n (mo_116 87 rfl) rfl rfl
theorem r116_88 : Runs xs sl d 116 88 [l0, l1, l2] [s4, s3, s2, s1, s0] H r ↔ Runs xs sl d 116 89 [l0, l1, l2] [.int 3, s4, s3, s2, s1, s0] H r := q_iconst (mo_116 88 rfl) rfl rfl
theorem r116_89 : Runs xs sl d 116 89 [l0, l1, l2] [.int u5, .int u4, s3, s2, s1, s0] H r ↔ Runs xs sl d 116 90 [l0, l1, l2] [.int (u4 * u5), s3, s2, s1, s0] H r := q_imul (mo_116 89 rfl) rfl
theorem r116_90 : Runs xs sl d 116 90 [l0, l1, l2] [s4, s3, s2, s1, s0] H r ↔ Runs xs sl d 116 91 [l0, l1, l2] [.int 2, s4, s3, s2, s1, s0] H r := q_iconst (mo_116 90 rfl) rfl rfl
theorem r116_91 : Runs xs sl d 116 91 [l0, l1, l2] [.int u5, .int u4, s3, s2, s1, s0] H r ↔ Runs xs sl d 116 92 [l0, l1, l2] [.int (u4 + u5), s3, s2, s1, s0] H r := q_iadd (mo_116 91 rfl) rfl
theorem r116_92 : Runs xs sl d 116 92 [l0, l1, l2] [.int u4, .ref b3, s2, s1, s0] H r ↔ ∃ v, hA H b3 0 u4 = some v ∧ Runs xs sl d 116 93 [l0, l1, l2] [.int v, s2, s1, s0] H r := run_iald (mo_116 92 rfl) rfl
theorem r116_93 (hc : hC H b0 = some 6) : Runs xs sl (d + 1) 116 93 [l0, l1, l2] [.int u3, .int u2, .int u1, .ref b0] H r ↔ ∃ v H1, Runs xs sl d 117 0 [some (.ref b0), some (.int u1), some (.int u2), some (.int u3), none] [] H (v, H1) ∧ Runs xs sl (d + 1) 116 96 [l0, l1, l2] (v.toList ++ []) H1 r := q_callV (M' := 117) (as := [.int u1, .int u2, .int u3]) (rest := []) (mo_116 93 rfl) mow_116 rfl mcs_117 mmx_117 rfl (Nat.le_of_ble_eq_true rfl) (Nat.le_of_ble_eq_true rfl) rfl rfl hc
theorem r116_96 : Runs xs sl d 116 96 [l0, l1, l2] [.int u0] H r ↔ Runs xs sl d 116 97 [l0, l1, l2] [] H r := q_pop (mo_116 96 rfl) rfl rfl
theorem r116_97 : Runs xs sl d 116 97 [l0, some (.ref a1), some (.int i2)] [] H r ↔ Runs xs sl d 116 100 [l0, some (.ref a1), some (.int (i2 + 1))] [] H r := q_iinc (mo_116 97 rfl) rfl (Nat.le_of_ble_eq_true rfl) rfl rfl
theorem r116_97_1 : Runs xs sl d 116 97 [l0, some .null, some (.int i2)] [] H r ↔ Runs xs sl d 116 100 [l0, some .null, some (.int (i2 + 1))] [] H r := q_iinc (mo_116 97 rfl) rfl (Nat.le_of_ble_eq_true rfl) rfl rfl
theorem r116_100 : Runs xs sl d 116 100 [l0, l1, l2] [] H r ↔ Runs xs sl d 116 56 [l0, l1, l2] [] H r := q_goto (mo_116 100 rfl) rfl
theorem r116_103 : Runs xs sl d 116 103 [l0, l1, l2] [] H r ↔ Runs xs sl d 116 104 [l0, l1, l2] [.int 0] H r := q_iconst (mo_116 103 rfl) rfl rfl
theorem r116_104 : Runs xs sl d 116 104 [l0, some (.ref a1), l2] [.int u0] H r ↔ Runs xs sl d 116 105 [l0, some (.ref a1), some (.int u0)] [] H r := q_istore_n (mo_116 104 rfl) (Nat.le_of_ble_eq_true rfl) rfl rfl
theorem r116_104_1 : Runs xs sl d 116 104 [l0, some .null, l2] [.int u0] H r ↔ Runs xs sl d 116 105 [l0, some .null, some (.int u0)] [] H r := q_istore_n (mo_116 104 rfl) (Nat.le_of_ble_eq_true rfl) rfl rfl
theorem r116_105 : Runs xs sl d 116 105 [l0, l1, some (.int i2)] [] H r ↔ Runs xs sl d 116 106 [l0, l1, some (.int i2)] [.int i2] H r := q_iload_n (mo_116 105 rfl) rfl rfl
theorem r116_106 : Runs xs sl d 116 106 [l0, some (.ref a1), l2] [s0] H r ↔ Runs xs sl d 116 107 [l0, some (.ref a1), l2] [.ref a1, s0] H r := q_aload_n (mo_116 106 rfl) rfl rfl
theorem r116_106n : Runs xs sl d 116 106 [l0, some .null, l2] [s0] H r ↔ Runs xs sl d 116 107 [l0, some .null, l2] [.null, s0] H r := q_aload_nN (mo_116 106 rfl) rfl rfl
theorem r116_107 : Runs xs sl d 116 107 [l0, l1, l2] [.ref b1, s0] H r ↔ ∃ v, hO H b1 8 4 = some v ∧ Runs xs sl d 116 110 [l0, l1, l2] [v, s0] H r := q_getf (mo_116 107 rfl) mow_116 rfl rfl
theorem r116_110 : Runs xs sl d 116 110 [l0, l1, l2] [.int u1, .int u0] H r ↔ if u1 ≤ u0 then Runs xs sl d 116 137 [l0, l1, l2] [] H r else Runs xs sl d 116 113 [l0, l1, l2] [] H r := q_icmp_ge (mo_116 110 rfl) rfl rfl
theorem r116_113 : Runs xs sl d 116 113 [some (.ref a0), l1, l2] [] H r ↔ Runs xs sl d 116 114 [some (.ref a0), l1, l2] [.ref a0] H r := q_aload_n (mo_116 113 rfl) rfl rfl
theorem r116_114 : Runs xs sl d 116 114 [l0, some (.ref a1), l2] [s0] H r ↔ Runs xs sl d 116 115 [l0, some (.ref a1), l2] [.ref a1, s0] H r := q_aload_n (mo_116 114 rfl) rfl rfl
theorem r116_114n : Runs xs sl d 116 114 [l0, some .null, l2] [s0] H r ↔ Runs xs sl d 116 115 [l0, some .null, l2] [.null, s0] H r := q_aload_nN (mo_116 114 rfl) rfl rfl
theorem r116_115 : Runs xs sl d 116 115 [l0, l1, l2] [.ref b1, s0] H r ↔ ∃ v, hO H b1 8 10 = some v ∧ Runs xs sl d 116 118 [l0, l1, l2] [v, s0] H r := q_getf (mo_116 115 rfl) mow_116 rfl rfl
theorem r116_118 : Runs xs sl d 116 118 [l0, l1, some (.int i2)] [s1, s0] H r ↔ Runs xs sl d 116 119 [l0, l1, some (.int i2)] [.int i2, s1, s0] H r := q_iload_n (mo_116 118 rfl) rfl rfl
theorem r116_119 : Runs xs sl d 116 119 [l0, l1, l2] [.int u2, .ref b1, s0] H r ↔ ∃ v, hA H b1 0 u2 = some v ∧ Runs xs sl d 116 120 [l0, l1, l2] [.int v, s0] H r := run_iald (mo_116 119 rfl) rfl
theorem r116_120 : Runs xs sl d 116 120 [l0, some (.ref a1), l2] [s1, s0] H r ↔ Runs xs sl d 116 121 [l0, some (.ref a1), l2] [.ref a1, s1, s0] H r := q_aload_n (mo_116 120 rfl) rfl rfl
theorem r116_120n : Runs xs sl d 116 120 [l0, some .null, l2] [s1, s0] H r ↔ Runs xs sl d 116 121 [l0, some .null, l2] [.null, s1, s0] H r := q_aload_nN (mo_116 120 rfl) rfl rfl
theorem r116_121 : Runs xs sl d 116 121 [l0, l1, l2] [.ref b2, s1, s0] H r ↔ ∃ v, hO H b2 8 11 = some v ∧ Runs xs sl d 116 124 [l0, l1, l2] [v, s1, s0] H r := q_getf (mo_116 121 rfl) mow_116 rfl rfl
theorem r116_124 : Runs xs sl d 116 124 [l0, l1, some (.int i2)] [s2, s1, s0] H r ↔ Runs xs sl d 116 125 [l0, l1, some (.int i2)] [.int i2, s2, s1, s0] H r := q_iload_n (mo_116 124 rfl) rfl rfl
theorem r116_125 : Runs xs sl d 116 125 [l0, l1, l2] [.int u3, .ref b2, s1, s0] H r ↔ ∃ v, hA H b2 0 u3 = some v ∧ Runs xs sl d 116 126 [l0, l1, l2] [.int v, s1, s0] H r := run_iald (mo_116 125 rfl) rfl
theorem r116_126 : Runs xs sl d 116 126 [l0, l1, l2] [s2, s1, s0] H r ↔ Runs xs sl d 116 127 [l0, l1, l2] [.int 1, s2, s1, s0] H r := q_iconst (mo_116 126 rfl) rfl rfl
theorem r116_127 (hc : hC H b0 = some 6) : Runs xs sl (d + 1) 116 127 [l0, l1, l2] [.int u3, .int u2, .int u1, .ref b0] H r ↔ ∃ v H1, Runs xs sl d 118 0 [some (.ref b0), some (.int u1), some (.int u2), some (.int u3), none] [] H (v, H1) ∧ Runs xs sl (d + 1) 116 130 [l0, l1, l2] (v.toList ++ []) H1 r := q_callV (M' := 118) (as := [.int u1, .int u2, .int u3]) (rest := []) (mo_116 127 rfl) mow_116 rfl mcs_118 mmx_118 rfl (Nat.le_of_ble_eq_true rfl) (Nat.le_of_ble_eq_true rfl) rfl rfl hc
theorem r116_130 : Runs xs sl d 116 130 [l0, l1, l2] [.int u0] H r ↔ Runs xs sl d 116 131 [l0, l1, l2] [] H r := q_pop (mo_116 130 rfl) rfl rfl
theorem r116_131 : Runs xs sl d 116 131 [l0, some (.ref a1), some (.int i2)] [] H r ↔ Runs xs sl d 116 134 [l0, some (.ref a1), some (.int (i2 + 1))] [] H r := q_iinc (mo_116 131 rfl) rfl (Nat.le_of_ble_eq_true rfl) rfl rfl
theorem r116_131_1 : Runs xs sl d 116 131 [l0, some .null, some (.int i2)] [] H r ↔ Runs xs sl d 116 134 [l0, some .null, some (.int (i2 + 1))] [] H r := q_iinc (mo_116 131 rfl) rfl (Nat.le_of_ble_eq_true rfl) rfl rfl
theorem r116_134 : Runs xs sl d 116 134 [l0, l1, l2] [] H r ↔ Runs xs sl d 116 105 [l0, l1, l2] [] H r := q_goto (mo_116 134 rfl) rfl
theorem r116_137 : Runs xs sl d 116 137 [l0, l1, l2] [] H r ↔ r = (none, H) := q_ret (mo_116 137 rfl) mrt_116
theorem r117_0 : Runs xs sl d 117 0 [l0, some (.int i1), l2, l3, l4] [] H r ↔ Runs xs sl d 117 1 [l0, some (.int i1), l2, l3, l4] [.int i1] H r := q_iload_n (mo_117 0 rfl) rfl rfl
theorem r117_1 : Runs xs sl d 117 1 [l0, l1, l2, l3, l4] [.int u0] H r ↔ if u0 < 0 then Runs xs sl d 117 20 [l0, l1, l2, l3, l4] [] H r else Runs xs sl d 117 4 [l0, l1, l2, l3, l4] [] H r := q_if_lt (mo_117 1 rfl) rfl rfl
theorem r117_4 : Runs xs sl d 117 4 [l0, some (.int i1), l2, l3, l4] [] H r ↔ Runs xs sl d 117 5 [l0, some (.int i1), l2, l3, l4] [.int i1] H r := q_iload_n (mo_117 4 rfl) rfl rfl
theorem r117_5 : Runs xs sl d 117 5 [l0, l1, l2, l3, l4] [s0] H r ↔ Runs xs sl d 117 6 [l0, l1, l2, l3, l4] [.int 4, s0] H r := q_iconst (mo_117 5 rfl) rfl rfl
theorem r117_6 : Runs xs sl d 117 6 [l0, l1, l2, l3, l4] [.int u1, .int u0] H r ↔ if u1 ≤ u0 then Runs xs sl d 117 20 [l0, l1, l2, l3, l4] [] H r else Runs xs sl d 117 9 [l0, l1, l2, l3, l4] [] H r := q_icmp_ge (mo_117 6 rfl) rfl rfl
theorem r117_9 : Runs xs sl d 117 9 [some (.ref a0), l1, l2, l3, l4] [] H r ↔ Runs xs sl d 117 10 [some (.ref a0), l1, l2, l3, l4] [.ref a0] H r := q_aload_n (mo_117 9 rfl) rfl rfl
theorem r117_10 : Runs xs sl d 117 10 [l0, l1, l2, l3, l4] [.ref b0] H r ↔ ∃ v, hO H b0 6 0 = some v ∧ Runs xs sl d 117 13 [l0, l1, l2, l3, l4] [v] H r := q_getf (mo_117 10 rfl) mow_117 rfl rfl
theorem r117_13 : Runs xs sl d 117 13 [l0, l1, some (.int i2), l3, l4] [s0] H r ↔ Runs xs sl d 117 14 [l0, l1, some (.int i2), l3, l4] [.int i2, s0] H r := q_iload_n (mo_117 13 rfl) rfl rfl
theorem r117_14 (hc : hC H b0 = some 8) : Runs xs sl (d + 1) 117 14 [l0, l1, l2, l3, l4] [.int u1, .ref b0] H r ↔ ∃ v H1, Runs xs sl d 154 0 [some (.ref b0), some (.int u1)] [] H (v, H1) ∧ Runs xs sl (d + 1) 117 17 [l0, l1, l2, l3, l4] (v.toList ++ []) H1 r := q_callV (M' := 154) (as := [.int u1]) (rest := []) (mo_117 14 rfl) mow_117 rfl mcs_154 mmx_154 rfl (Nat.le_of_ble_eq_true rfl) (Nat.le_of_ble_eq_true rfl) rfl rfl hc
theorem r117_17 : Runs xs sl d 117 17 [l0, l1, l2, l3, l4] [.int u0] H r ↔ if ¬ u0 = 0 then Runs xs sl d 117 22 [l0, l1, l2, l3, l4] [] H r else Runs xs sl d 117 20 [l0, l1, l2, l3, l4] [] H r := q_if_ne (mo_117 17 rfl) rfl rfl
theorem r117_20 : Runs xs sl d 117 20 [l0, l1, l2, l3, l4] [] H r ↔ Runs xs sl d 117 21 [l0, l1, l2, l3, l4] [.int 0] H r := q_iconst (mo_117 20 rfl) rfl rfl
theorem r117_21 (h : u0 = 0 ∨ u0 = 1) : Runs xs sl d 117 21 [l0, l1, l2, l3, l4] [.int u0] H r ↔ r = (some (.int u0), H) := q_zret (mo_117 21 rfl) mrt_117 h
theorem r117_22 : Runs xs sl d 117 22 [l0, some (.int i1), l2, l3, l4] [] H r ↔ Runs xs sl d 117 23 [l0, some (.int i1), l2, l3, l4] [.int i1] H r := q_iload_n (mo_117 22 rfl) rfl rfl
theorem r117_23 : Runs xs sl d 117 23 [l0, l1, l2, l3, l4] [s0] H r ↔ Runs xs sl d 117 25 [l0, l1, l2, l3, l4] [.int 6, s0] H r := q_bipush (mo_117 23 rfl) rfl rfl
theorem r117_25 : Runs xs sl d 117 25 [l0, l1, l2, l3, l4] [.int u1, .int u0] H r ↔ Runs xs sl d 117 26 [l0, l1, l2, l3, l4] [.int (u0 * u1)] H r := q_imul (mo_117 25 rfl) rfl
theorem r117_26 : Runs xs sl d 117 26 [l0, l1, some (.int i2), l3, l4] [s0] H r ↔ Runs xs sl d 117 27 [l0, l1, some (.int i2), l3, l4] [.int i2, s0] H r := q_iload_n (mo_117 26 rfl) rfl rfl
theorem r117_27 : Runs xs sl d 117 27 [l0, l1, l2, l3, l4] [.int u1, .int u0] H r ↔ Runs xs sl d 117 28 [l0, l1, l2, l3, l4] [.int (u0 + u1)] H r := q_iadd (mo_117 27 rfl) rfl
theorem r117_28 : Runs xs sl d 117 28 [l0, l1, l2, some (.int i3), l4] [.int u0] H r ↔ Runs xs sl d 117 30 [l0, l1, l2, some (.int i3), some (.int u0)] [] H r := q_istore (mo_117 28 rfl) (Nat.le_of_ble_eq_true rfl) rfl rfl
theorem r117_30 : Runs xs sl d 117 30 [some (.ref a0), l1, l2, l3, l4] [] H r ↔ Runs xs sl d 117 31 [some (.ref a0), l1, l2, l3, l4] [.ref a0] H r := q_aload_n (mo_117 30 rfl) rfl rfl
theorem r117_31 : Runs xs sl d 117 31 [l0, l1, l2, l3, l4] [.ref b0] H r ↔ ∃ v, hO H b0 6 9 = some v ∧ Runs xs sl d 117 34 [l0, l1, l2, l3, l4] [v] H r := q_getf (mo_117 31 rfl) mow_117 rfl rfl
theorem r117_34 : Runs xs sl d 117 34 [l0, l1, l2, l3, some (.int i4)] [s0] H r ↔ Runs xs sl d 117 36 [l0, l1, l2, l3, some (.int i4)] [.int i4, s0] H r := q_iload (mo_117 34 rfl) rfl rfl
theorem r117_36 : Runs xs sl d 117 36 [some (.ref a0), l1, l2, l3, l4] [s1, s0] H r ↔ Runs xs sl d 117 37 [some (.ref a0), l1, l2, l3, l4] [.ref a0, s1, s0] H r := q_aload_n (mo_117 36 rfl) rfl rfl
theorem r117_37 : Runs xs sl d 117 37 [l0, l1, l2, l3, l4] [.ref b2, s1, s0] H r ↔ ∃ v, hO H b2 6 8 = some v ∧ Runs xs sl d 117 40 [l0, l1, l2, l3, l4] [v, s1, s0] H r := q_getf (mo_117 37 rfl) mow_117 rfl rfl
theorem r117_40 : Runs xs sl d 117 40 [l0, l1, l2, l3, some (.int i4)] [s2, s1, s0] H r ↔ Runs xs sl d 117 42 [l0, l1, l2, l3, some (.int i4)] [.int i4, s2, s1, s0] H r := q_iload (mo_117 40 rfl) rfl rfl
theorem r117_42 : Runs xs sl d 117 42 [l0, l1, l2, l3, l4] [.int u3, .ref b2, s1, s0] H r ↔ ∃ v, hA H b2 0 u3 = some v ∧ Runs xs sl d 117 43 [l0, l1, l2, l3, l4] [.int v, s1, s0] H r := run_iald (mo_117 42 rfl) rfl
theorem r117_43 : Runs xs sl d 117 43 [l0, l1, l2, l3, l4] [.int u2, .int u1, .ref b0] H r ↔ ∃ H1, hAw H b0 0 u1 u2 = some H1 ∧ Runs xs sl d 117 44 [l0, l1, l2, l3, l4] [] H1 r := run_iast (mo_117 43 rfl) rfl
theorem r117_44 : Runs xs sl d 117 44 [some (.ref a0), l1, l2, l3, l4] [] H r ↔ Runs xs sl d 117 45 [some (.ref a0), l1, l2, l3, l4] [.ref a0] H r := q_aload_n (mo_117 44 rfl) rfl rfl
theorem r117_45 : Runs xs sl d 117 45 [l0, l1, l2, l3, l4] [.ref b0] H r ↔ ∃ v, hO H b0 6 8 = some v ∧ Runs xs sl d 117 48 [l0, l1, l2, l3, l4] [v] H r := q_getf (mo_117 45 rfl) mow_117 rfl rfl
theorem r117_48 : Runs xs sl d 117 48 [l0, l1, l2, l3, some (.int i4)] [s0] H r ↔ Runs xs sl d 117 50 [l0, l1, l2, l3, some (.int i4)] [.int i4, s0] H r := q_iload (mo_117 48 rfl) rfl rfl
theorem r117_50 : Runs xs sl d 117 50 [l0, l1, l2, some (.int i3), l4] [s1, s0] H r ↔ Runs xs sl d 117 51 [l0, l1, l2, some (.int i3), l4] [.int i3, s1, s0] H r := q_iload_n (mo_117 50 rfl) rfl rfl
theorem r117_51 : Runs xs sl d 117 51 [l0, l1, l2, l3, l4] [.int u2, .int u1, .ref b0] H r ↔ ∃ H1, hAw H b0 0 u1 u2 = some H1 ∧ Runs xs sl d 117 52 [l0, l1, l2, l3, l4] [] H1 r := run_iast (mo_117 51 rfl) rfl
theorem r117_52 : Runs xs sl d 117 52 [some (.ref a0), l1, l2, l3, l4] [] H r ↔ Runs xs sl d 117 53 [some (.ref a0), l1, l2, l3, l4] [.ref a0] H r := q_aload_n (mo_117 52 rfl) rfl rfl
theorem r117_53 : Runs xs sl d 117 53 [l0, l1, l2, l3, l4] [.ref b0] H r ↔ ∃ v, hO H b0 6 10 = some v ∧ Runs xs sl d 117 56 [l0, l1, l2, l3, l4] [v] H r := q_getf (mo_117 53 rfl) mow_117 rfl rfl
theorem r117_56 : Runs xs sl d 117 56 [l0, some (.int i1), l2, l3, l4] [s0] H r ↔ Runs xs sl d 117 57 [l0, some (.int i1), l2, l3, l4] [.int i1, s0] H r := q_iload_n (mo_117 56 rfl) rfl rfl
theorem r117_57 : Runs xs sl d 117 57 [l0, l1, some (.int i2), l3, l4] [s1, s0] H r ↔ Runs xs sl d 117 58 [l0, l1, some (.int i2), l3, l4] [.int i2, s1, s0] H r := q_iload_n (mo_117 57 rfl) rfl rfl
theorem r117_58 : Runs xs sl d 117 58 [l0, l1, l2, l3, l4] [.int u2, .int u1, .ref b0] H r ↔ ∃ H1, hAw H b0 0 u1 u2 = some H1 ∧ Runs xs sl d 117 59 [l0, l1, l2, l3, l4] [] H1 r := run_iast (mo_117 58 rfl) rfl
theorem r117_59 : Runs xs sl d 117 59 [l0, l1, l2, l3, l4] [] H r ↔ Runs xs sl d 117 60 [l0, l1, l2, l3, l4] [.int 1] H r := q_iconst (mo_117 59 rfl) rfl rfl
theorem r117_60 (h : u0 = 0 ∨ u0 = 1) : Runs xs sl d 117 60 [l0, l1, l2, l3, l4] [.int u0] H r ↔ r = (some (.int u0), H) := q_zret (mo_117 60 rfl) mrt_117 h
theorem r118_0 : Runs xs sl d 118 0 [some (.ref a0), l1, l2, l3, l4] [] H r ↔ Runs xs sl d 118 1 [some (.ref a0), l1, l2, l3, l4] [.ref a0] H r := q_aload_n (mo_118 0 rfl) rfl rfl
theorem r118_1 : Runs xs sl d 118 1 [l0, l1, l2, l3, l4] [.ref b0] H r ↔ ∃ v, hO H b0 6 1 = some v ∧ Runs xs sl d 118 4 [l0, l1, l2, l3, l4] [v] H r := q_getf (mo_118 1 rfl) mow_118 rfl rfl
theorem r118_4 : Runs xs sl d 118 4 [l0, l1, l2, l3, l4] [s0] H r ↔ Runs xs sl d 118 6 [l0, l1, l2, l3, l4] [.int 16, s0] H r := q_bipush (mo_118 4 rfl) rfl rfl
theorem r118_6 : Runs xs sl d 118 6 [l0, l1, l2, l3, l4] [.int u1, .int u0] H r ↔ if u1 ≤ u0 then Runs xs sl d 118 18 [l0, l1, l2, l3, l4] [] H r else Runs xs sl d 118 9 [l0, l1, l2, l3, l4] [] H r := q_icmp_ge (mo_118 6 rfl) rfl rfl
theorem r118_9 : Runs xs sl d 118 9 [l0, l1, some (.int i2), l3, l4] [] H r ↔ Runs xs sl d 118 10 [l0, l1, some (.int i2), l3, l4] [.int i2] H r := q_iload_n (mo_118 9 rfl) rfl rfl
theorem r118_10 : Runs xs sl d 118 10 [l0, l1, l2, l3, l4] [.int u0] H r ↔ if u0 < 0 then Runs xs sl d 118 18 [l0, l1, l2, l3, l4] [] H r else Runs xs sl d 118 13 [l0, l1, l2, l3, l4] [] H r := q_if_lt (mo_118 10 rfl) rfl rfl
theorem r118_13 : Runs xs sl d 118 13 [l0, l1, some (.int i2), l3, l4] [] H r ↔ Runs xs sl d 118 14 [l0, l1, some (.int i2), l3, l4] [.int i2] H r := q_iload_n (mo_118 13 rfl) rfl rfl
theorem r118_14 : Runs xs sl d 118 14 [l0, l1, l2, l3, l4] [s0] H r ↔ Runs xs sl d 118 15 [l0, l1, l2, l3, l4] [.int 4, s0] H r := q_iconst (mo_118 14 rfl) rfl rfl
theorem r118_15 : Runs xs sl d 118 15 [l0, l1, l2, l3, l4] [.int u1, .int u0] H r ↔ if u0 < u1 then Runs xs sl d 118 20 [l0, l1, l2, l3, l4] [] H r else Runs xs sl d 118 18 [l0, l1, l2, l3, l4] [] H r := q_icmp_lt (mo_118 15 rfl) rfl rfl
theorem r118_18 : Runs xs sl d 118 18 [l0, l1, l2, l3, l4] [] H r ↔ Runs xs sl d 118 19 [l0, l1, l2, l3, l4] [.int 0] H r := q_iconst (mo_118 18 rfl) rfl rfl
theorem r118_19 (h : u0 = 0 ∨ u0 = 1) : Runs xs sl d 118 19 [l0, l1, l2, l3, l4] [.int u0] H r ↔ r = (some (.int u0), H) := q_zret (mo_118 19 rfl) mrt_118 h
theorem r118_20 : Runs xs sl d 118 20 [some (.ref a0), l1, l2, l3, l4] [] H r ↔ Runs xs sl d 118 21 [some (.ref a0), l1, l2, l3, l4] [.ref a0] H r := q_aload_n (mo_118 20 rfl) rfl rfl
theorem r118_21 : Runs xs sl d 118 21 [l0, l1, l2, l3, l4] [.ref b0] H r ↔ ∃ v, hO H b0 6 5 = some v ∧ Runs xs sl d 118 24 [l0, l1, l2, l3, l4] [v] H r := q_getf (mo_118 21 rfl) mow_118 rfl rfl
theorem r118_24 : Runs xs sl d 118 24 [some (.ref a0), l1, l2, l3, l4] [s0] H r ↔ Runs xs sl d 118 25 [some (.ref a0), l1, l2, l3, l4] [.ref a0, s0] H r := q_aload_n (mo_118 24 rfl) rfl rfl
theorem r118_25 : Runs xs sl d 118 25 [l0, l1, l2, l3, l4] [.ref b1, s0] H r ↔ ∃ v, hO H b1 6 1 = some v ∧ Runs xs sl d 118 28 [l0, l1, l2, l3, l4] [v, s0] H r := q_getf (mo_118 25 rfl) mow_118 rfl rfl
theorem r118_28 : Runs xs sl d 118 28 [l0, some (.int i1), l2, l3, l4] [s1, s0] H r ↔ Runs xs sl d 118 29 [l0, some (.int i1), l2, l3, l4] [.int i1, s1, s0] H r := q_iload_n (mo_118 28 rfl) rfl rfl
theorem r118_29 : Runs xs sl d 118 29 [l0, l1, l2, l3, l4] [.int u2, .int u1, .ref b0] H r ↔ ∃ H1, hAw H b0 0 u1 u2 = some H1 ∧ Runs xs sl d 118 30 [l0, l1, l2, l3, l4] [] H1 r := run_iast (mo_118 29 rfl) rfl
theorem r118_30 : Runs xs sl d 118 30 [some (.ref a0), l1, l2, l3, l4] [] H r ↔ Runs xs sl d 118 31 [some (.ref a0), l1, l2, l3, l4] [.ref a0] H r := q_aload_n (mo_118 30 rfl) rfl rfl
theorem r118_31 : Runs xs sl d 118 31 [l0, l1, l2, l3, l4] [.ref b0] H r ↔ ∃ v, hO H b0 6 6 = some v ∧ Runs xs sl d 118 34 [l0, l1, l2, l3, l4] [v] H r := q_getf (mo_118 31 rfl) mow_118 rfl rfl
theorem r118_34 : Runs xs sl d 118 34 [some (.ref a0), l1, l2, l3, l4] [s0] H r ↔ Runs xs sl d 118 35 [some (.ref a0), l1, l2, l3, l4] [.ref a0, s0] H r := q_aload_n (mo_118 34 rfl) rfl rfl
theorem r118_35 : Runs xs sl d 118 35 [l0, l1, l2, l3, l4] [.ref b1, s0] H r ↔ ∃ v, hO H b1 6 1 = some v ∧ Runs xs sl d 118 38 [l0, l1, l2, l3, l4] [v, s0] H r := q_getf (mo_118 35 rfl) mow_118 rfl rfl
theorem r118_38 : Runs xs sl d 118 38 [l0, l1, l2, some (.int i3), l4] [s1, s0] H r ↔ Runs xs sl d 118 39 [l0, l1, l2, some (.int i3), l4] [.int i3, s1, s0] H r := q_iload_n (mo_118 38 rfl) rfl rfl
theorem r118_39 : Runs xs sl d 118 39 [l0, l1, l2, l3, l4] [.int u2, .int u1, .ref b0] H r ↔ ∃ H1, hAw H b0 0 u1 u2 = some H1 ∧ Runs xs sl d 118 40 [l0, l1, l2, l3, l4] [] H1 r := run_iast (mo_118 39 rfl) rfl
theorem r118_40 : Runs xs sl d 118 40 [some (.ref a0), l1, l2, l3, l4] [] H r ↔ Runs xs sl d 118 41 [some (.ref a0), l1, l2, l3, l4] [.ref a0] H r := q_aload_n (mo_118 40 rfl) rfl rfl
theorem r118_41 : Runs xs sl d 118 41 [l0, l1, l2, l3, l4] [.ref b0] H r ↔ ∃ v, hO H b0 6 7 = some v ∧ Runs xs sl d 118 44 [l0, l1, l2, l3, l4] [v] H r := q_getf (mo_118 41 rfl) mow_118 rfl rfl
theorem r118_44 : Runs xs sl d 118 44 [some (.ref a0), l1, l2, l3, l4] [s0] H r ↔ Runs xs sl d 118 45 [some (.ref a0), l1, l2, l3, l4] [.ref a0, s0] H r := q_aload_n (mo_118 44 rfl) rfl rfl
theorem r118_45 : Runs xs sl d 118 45 [l0, l1, l2, l3, l4] [.ref b1, s0] H r ↔ ∃ v, hO H b1 6 1 = some v ∧ Runs xs sl d 118 48 [l0, l1, l2, l3, l4] [v, s0] H r := q_getf (mo_118 45 rfl) mow_118 rfl rfl
theorem r118_48 : Runs xs sl d 118 48 [l0, l1, l2, l3, l4] [s1, s0] H r ↔ Runs xs sl d 118 49 [l0, l1, l2, l3, l4] [.int 0, s1, s0] H r := q_iconst (mo_118 48 rfl) rfl rfl
theorem r118_49 : Runs xs sl d 118 49 [l0, l1, l2, l3, l4] [.int u2, .int u1, .ref b0] H r ↔ ∃ H1, hBw H b0 u1 u2 = some H1 ∧ Runs xs sl d 118 50 [l0, l1, l2, l3, l4] [] H1 r := run_bast (mo_118 49 rfl) rfl
theorem r118_50 : Runs xs sl d 118 50 [l0, l1, l2, l3, l4] [] H r ↔ Runs xs sl d 118 51 [l0, l1, l2, l3, l4] [.int 0] H r := q_iconst (mo_118 50 rfl) rfl rfl
theorem r118_51 : Runs xs sl d 118 51 [l0, l1, l2, some (.int i3), l4] [.int u0] H r ↔ Runs xs sl d 118 53 [l0, l1, l2, some (.int i3), some (.int u0)] [] H r := q_istore (mo_118 51 rfl) (Nat.le_of_ble_eq_true rfl) rfl rfl
theorem r118_53 : Runs xs sl d 118 53 [l0, l1, l2, l3, some (.int i4)] [] H r ↔ Runs xs sl d 118 55 [l0, l1, l2, l3, some (.int i4)] [.int i4] H r := q_iload (mo_118 53 rfl) rfl rfl
theorem r118_55 : Runs xs sl d 118 55 [some (.ref a0), l1, l2, l3, l4] [s0] H r ↔ Runs xs sl d 118 56 [some (.ref a0), l1, l2, l3, l4] [.ref a0, s0] H r := q_aload_n (mo_118 55 rfl) rfl rfl
theorem r118_56 : Runs xs sl d 118 56 [l0, l1, l2, l3, l4] [.ref b1, s0] H r ↔ ∃ v, hO H b1 6 0 = some v ∧ Runs xs sl d 118 59 [l0, l1, l2, l3, l4] [v, s0] H r := q_getf (mo_118 56 rfl) mow_118 rfl rfl
theorem r118_59 : Runs xs sl d 118 59 [l0, l1, l2, l3, l4] [.ref b1, s0] H r ↔ ∃ v, hO H b1 8 0 = some v ∧ Runs xs sl d 118 62 [l0, l1, l2, l3, l4] [v, s0] H r := q_getf (mo_118 59 rfl) mow_118 rfl rfl
theorem r118_62 : Runs xs sl d 118 62 [l0, l1, l2, l3, l4] [.int u1, .int u0] H r ↔ if u1 ≤ u0 then Runs xs sl d 118 94 [l0, l1, l2, l3, l4] [] H r else Runs xs sl d 118 65 [l0, l1, l2, l3, l4] [] H r := q_icmp_ge (mo_118 62 rfl) rfl rfl
theorem r118_65 : Runs xs sl d 118 65 [some (.ref a0), l1, l2, l3, l4] [] H r ↔ Runs xs sl d 118 66 [some (.ref a0), l1, l2, l3, l4] [.ref a0] H r := q_aload_n (mo_118 65 rfl) rfl rfl
theorem r118_66 : Runs xs sl d 118 66 [l0, l1, l2, l3, l4] [.ref b0] H r ↔ ∃ v, hO H b0 6 3 = some v ∧ Runs xs sl d 118 69 [l0, l1, l2, l3, l4] [v] H r := q_getf (mo_118 66 rfl) mow_118 rfl rfl
theorem r118_69 : Runs xs sl d 118 69 [some (.ref a0), l1, l2, l3, l4] [s0] H r ↔ Runs xs sl d 118 70 [some (.ref a0), l1, l2, l3, l4] [.ref a0, s0] H r := q_aload_n (mo_118 69 rfl) rfl rfl
theorem r118_70 : Runs xs sl d 118 70 [l0, l1, l2, l3, l4] [.ref b1, s0] H r ↔ ∃ v, hO H b1 6 1 = some v ∧ Runs xs sl d 118 73 [l0, l1, l2, l3, l4] [v, s0] H r := q_getf (mo_118 70 rfl) mow_118 rfl rfl
theorem r118_73 : Runs xs sl d 118 73 [l0, l1, l2, l3, l4] [s1, s0] H r ↔ Runs xs sl d 118 75 [l0, l1, l2, l3, l4] [.int 6, s1, s0] H r := q_bipush (mo_118 73 rfl) rfl rfl
theorem r118_75 : Runs xs sl d 118 75 [l0, l1, l2, l3, l4] [.int u2, .int u1, s0] H r ↔ Runs xs sl d 118 76 [l0, l1, l2, l3, l4] [.int (u1 * u2), s0] H r := q_imul (mo_118 75 rfl) rfl
theorem r118_76 : Runs xs sl d 118 76 [l0, l1, l2, l3, some (.int i4)] [s1, s0] H r ↔ Runs xs sl d 118 78 [l0, l1, l2, l3, some (.int i4)] [.int i4, s1, s0] H r := q_iload (mo_118 76 rfl) rfl rfl
theorem r118_78 : Runs xs sl d 118 78 [l0, l1, l2, l3, l4] [.int u2, .int u1, s0] H r ↔ Runs xs sl d 118 79 [l0, l1, l2, l3, l4] [.int (u1 + u2), s0] H r := q_iadd (mo_118 78 rfl) rfl
theorem r118_79 : Runs xs sl d 118 79 [some (.ref a0), l1, l2, l3, l4] [s1, s0] H r ↔ Runs xs sl d 118 80 [some (.ref a0), l1, l2, l3, l4] [.ref a0, s1, s0] H r := q_aload_n (mo_118 79 rfl) rfl rfl
theorem r118_80 : Runs xs sl d 118 80 [l0, some (.int i1), l2, l3, l4] [s2, s1, s0] H r ↔ Runs xs sl d 118 81 [l0, some (.int i1), l2, l3, l4] [.int i1, s2, s1, s0] H r := q_iload_n (mo_118 80 rfl) rfl rfl
theorem r118_81 : Runs xs sl d 118 81 [l0, l1, some (.int i2), l3, l4] [s3, s2, s1, s0] H r ↔ Runs xs sl d 118 82 [l0, l1, some (.int i2), l3, l4] [.int i2, s3, s2, s1, s0] H r := q_iload_n (mo_118 81 rfl) rfl rfl
theorem r118_82 : Runs xs sl d 118 82 [l0, l1, l2, l3, some (.int i4)] [s4, s3, s2, s1, s0] H r ↔ Runs xs sl d 118 84 [l0, l1, l2, l3, some (.int i4)] [.int i4, s4, s3, s2, s1, s0] H r := q_iload (mo_118 82 rfl) rfl rfl
theorem r118_84 (hc : hC H b2 = some 6) : Runs xs sl (d + 1) 118 84 [l0, l1, l2, l3, l4] [.int u5, .int u4, .int u3, .ref b2, .int u1, .ref b0] H r ↔ ∃ v H1, Runs xs sl d 119 0 [some (.ref b2), some (.int u3), some (.int u4), some (.int u5), none] [] H (v, H1) ∧ Runs xs sl (d + 1) 118 87 [l0, l1, l2, l3, l4] (v.toList ++ [.int u1, .ref b0]) H1 r := q_callV (M' := 119) (as := [.int u3, .int u4, .int u5]) (rest := [.int u1, .ref b0]) (mo_118 84 rfl) mow_118 rfl mcs_119 mmx_119 rfl (Nat.le_of_ble_eq_true rfl) (Nat.le_of_ble_eq_true rfl) rfl rfl hc
theorem r118_87 : Runs xs sl d 118 87 [l0, l1, l2, l3, l4] [.int u2, .int u1, .ref b0] H r ↔ ∃ H1, hAw H b0 0 u1 u2 = some H1 ∧ Runs xs sl d 118 88 [l0, l1, l2, l3, l4] [] H1 r := run_iast (mo_118 87 rfl) rfl
theorem r118_88 : Runs xs sl d 118 88 [l0, l1, l2, some (.int i3), some (.int i4)] [] H r ↔ Runs xs sl d 118 91 [l0, l1, l2, some (.int i3), some (.int (i4 + 1))] [] H r := q_iinc (mo_118 88 rfl) rfl (Nat.le_of_ble_eq_true rfl) rfl rfl
theorem r118_91 : Runs xs sl d 118 91 [l0, l1, l2, l3, l4] [] H r ↔ Runs xs sl d 118 53 [l0, l1, l2, l3, l4] [] H r := q_goto (mo_118 91 rfl) rfl
theorem r118_94 : Runs xs sl d 118 94 [some (.ref a0), l1, l2, l3, l4] [] H r ↔ Runs xs sl d 118 95 [some (.ref a0), l1, l2, l3, l4] [.ref a0] H r := q_aload_n (mo_118 94 rfl) rfl rfl
theorem r118_95 : Runs xs sl d 118 95 [l0, l1, l2, l3, l4] [.ref b0] H r ↔ Runs xs sl d 118 96 [l0, l1, l2, l3, l4] [.ref b0, .ref b0] H r := q_dup (mo_118 95 rfl) rfl rfl
theorem r118_96 : Runs xs sl d 118 96 [l0, l1, l2, l3, l4] [.ref b1, s0] H r ↔ ∃ v, hO H b1 6 1 = some v ∧ Runs xs sl d 118 99 [l0, l1, l2, l3, l4] [v, s0] H r := q_getf (mo_118 96 rfl) mow_118 rfl rfl
theorem r118_99 : Runs xs sl d 118 99 [l0, l1, l2, l3, l4] [s1, s0] H r ↔ Runs xs sl d 118 100 [l0, l1, l2, l3, l4] [.int 1, s1, s0] H r := q_iconst (mo_118 99 rfl) rfl rfl
theorem r118_100 : Runs xs sl d 118 100 [l0, l1, l2, l3, l4] [.int u2, .int u1, s0] H r ↔ Runs xs sl d 118 101 [l0, l1, l2, l3, l4] [.int (u1 + u2), s0] H r := q_iadd (mo_118 100 rfl) rfl
theorem r118_101 : Runs xs sl d 118 101 [l0, l1, l2, l3, l4] [.int u1, .ref b0] H r ↔ ∃ H1, hOw H b0 6 1 (.int u1) = some H1 ∧ Runs xs sl d 118 104 [l0, l1, l2, l3, l4] [] H1 r := q_putf (mo_118 101 rfl) mow_118 rfl rfl (by decide +kernel) rfl
theorem r118_104 : Runs xs sl d 118 104 [l0, l1, l2, l3, l4] [] H r ↔ Runs xs sl d 118 105 [l0, l1, l2, l3, l4] [.int 1] H r := q_iconst (mo_118 104 rfl) rfl rfl
theorem r118_105 (h : u0 = 0 ∨ u0 = 1) : Runs xs sl d 118 105 [l0, l1, l2, l3, l4] [.int u0] H r ↔ r = (some (.int u0), H) := q_zret (mo_118 105 rfl) mrt_118 h
theorem r119_0 : Runs xs sl d 119 0 [l0, l1, some (.int i2), l3, l4] [] H r ↔ Runs xs sl d 119 1 [l0, l1, some (.int i2), l3, l4] [.int i2] H r := q_iload_n (mo_119 0 rfl) rfl rfl
theorem r119_1 : Runs xs sl d 119 1 [l0, l1, l2, l3, l4] [s0] H r ↔ Runs xs sl d 119 3 [l0, l1, l2, l3, l4] [.int 6, s0] H r := q_bipush (mo_119 1 rfl) rfl rfl
theorem r119_3 : Runs xs sl d 119 3 [l0, l1, l2, l3, l4] [.int u1, .int u0] H r ↔ Runs xs sl d 119 4 [l0, l1, l2, l3, l4] [.int (u0 * u1)] H r := q_imul (mo_119 3 rfl) rfl
theorem r119_4 : Runs xs sl d 119 4 [l0, l1, l2, some (.int i3), l4] [s0] H r ↔ Runs xs sl d 119 5 [l0, l1, l2, some (.int i3), l4] [.int i3, s0] H r := q_iload_n (mo_119 4 rfl) rfl rfl
theorem r119_5 : Runs xs sl d 119 5 [l0, l1, l2, l3, l4] [.int u1, .int u0] H r ↔ Runs xs sl d 119 6 [l0, l1, l2, l3, l4] [.int (u0 + u1)] H r := q_iadd (mo_119 5 rfl) rfl
theorem r119_6 : Runs xs sl d 119 6 [l0, l1, l2, some (.int i3), l4] [.int u0] H r ↔ Runs xs sl d 119 8 [l0, l1, l2, some (.int i3), some (.int u0)] [] H r := q_istore (mo_119 6 rfl) (Nat.le_of_ble_eq_true rfl) rfl rfl
theorem r119_8 : Runs xs sl d 119 8 [l0, some (.int i1), l2, l3, l4] [] H r ↔ Runs xs sl d 119 9 [l0, some (.int i1), l2, l3, l4] [.int i1] H r := q_iload_n (mo_119 8 rfl) rfl rfl
theorem r119_9 : Runs xs sl d 119 9 [l0, l1, l2, l3, l4] [.int u0] H r ↔ if ¬ u0 = 0 then Runs xs sl d 119 20 [l0, l1, l2, l3, l4] [] H r else Runs xs sl d 119 12 [l0, l1, l2, l3, l4] [] H r := q_if_ne (mo_119 9 rfl) rfl rfl
theorem r119_12 : Runs xs sl d 119 12 [some (.ref a0), l1, l2, l3, l4] [] H r ↔ Runs xs sl d 119 13 [some (.ref a0), l1, l2, l3, l4] [.ref a0] H r := q_aload_n (mo_119 12 rfl) rfl rfl
theorem r119_13 : Runs xs sl d 119 13 [l0, l1, l2, l3, l4] [.ref b0] H r ↔ ∃ v, hO H b0 6 9 = some v ∧ Runs xs sl d 119 16 [l0, l1, l2, l3, l4] [v] H r := q_getf (mo_119 13 rfl) mow_119 rfl rfl
theorem r119_16 : Runs xs sl d 119 16 [l0, l1, l2, l3, some (.int i4)] [s0] H r ↔ Runs xs sl d 119 18 [l0, l1, l2, l3, some (.int i4)] [.int i4, s0] H r := q_iload (mo_119 16 rfl) rfl rfl
theorem r119_18 : Runs xs sl d 119 18 [l0, l1, l2, l3, l4] [.int u1, .ref b0] H r ↔ ∃ v, hA H b0 0 u1 = some v ∧ Runs xs sl d 119 19 [l0, l1, l2, l3, l4] [.int v] H r := run_iald (mo_119 18 rfl) rfl
theorem r119_19 : Runs xs sl d 119 19 [l0, l1, l2, l3, l4] [.int u0] H r ↔ r = (some (.int u0), H) := q_iret (mo_119 19 rfl) mrt_119
theorem r119_20 : Runs xs sl d 119 20 [l0, some (.int i1), l2, l3, l4] [] H r ↔ Runs xs sl d 119 21 [l0, some (.int i1), l2, l3, l4] [.int i1] H r := q_iload_n (mo_119 20 rfl) rfl rfl
theorem r119_21 : Runs xs sl d 119 21 [l0, l1, l2, l3, l4] [s0] H r ↔ Runs xs sl d 119 22 [l0, l1, l2, l3, l4] [.int 2, s0] H r := q_iconst (mo_119 21 rfl) rfl rfl
theorem r119_22 : Runs xs sl d 119 22 [l0, l1, l2, l3, l4] [.int u1, .int u0] H r ↔ if ¬ u0 = u1 then Runs xs sl d 119 37 [l0, l1, l2, l3, l4] [] H r else Runs xs sl d 119 25 [l0, l1, l2, l3, l4] [] H r := q_icmp_ne (mo_119 22 rfl) rfl rfl
theorem r119_25 : Runs xs sl d 119 25 [l0, l1, l2, some (.int i3), l4] [] H r ↔ Runs xs sl d 119 26 [l0, l1, l2, some (.int i3), l4] [.int i3] H r := q_iload_n (mo_119 25 rfl) rfl rfl
theorem r119_26 : Runs xs sl d 119 26 [some (.ref a0), l1, l2, l3, l4] [s0] H r ↔ Runs xs sl d 119 27 [some (.ref a0), l1, l2, l3, l4] [.ref a0, s0] H r := q_aload_n (mo_119 26 rfl) rfl rfl
theorem r119_27 : Runs xs sl d 119 27 [l0, l1, l2, l3, l4] [.ref b1, s0] H r ↔ ∃ v, hO H b1 6 10 = some v ∧ Runs xs sl d 119 30 [l0, l1, l2, l3, l4] [v, s0] H r := q_getf (mo_119 27 rfl) mow_119 rfl rfl
theorem r119_30 : Runs xs sl d 119 30 [l0, l1, some (.int i2), l3, l4] [s1, s0] H r ↔ Runs xs sl d 119 31 [l0, l1, some (.int i2), l3, l4] [.int i2, s1, s0] H r := q_iload_n (mo_119 30 rfl) rfl rfl
theorem r119_31 : Runs xs sl d 119 31 [l0, l1, l2, l3, l4] [.int u2, .ref b1, s0] H r ↔ ∃ v, hA H b1 0 u2 = some v ∧ Runs xs sl d 119 32 [l0, l1, l2, l3, l4] [.int v, s0] H r := run_iald (mo_119 31 rfl) rfl
theorem r119_32 : Runs xs sl d 119 32 [l0, l1, l2, l3, l4] [.int u1, .int u0] H r ↔ if u0 = u1 then Runs xs sl d 119 37 [l0, l1, l2, l3, l4] [] H r else Runs xs sl d 119 35 [l0, l1, l2, l3, l4] [] H r := q_icmp_eq (mo_119 32 rfl) rfl rfl
theorem r119_35 : Runs xs sl d 119 35 [l0, l1, l2, l3, l4] [] H r ↔ Runs xs sl d 119 36 [l0, l1, l2, l3, l4] [.int 0] H r := q_iconst (mo_119 35 rfl) rfl rfl
theorem r119_36 : Runs xs sl d 119 36 [l0, l1, l2, l3, l4] [.int u0] H r ↔ r = (some (.int u0), H) := q_iret (mo_119 36 rfl) mrt_119
theorem r119_37 : Runs xs sl d 119 37 [l0, some (.int i1), l2, l3, l4] [] H r ↔ Runs xs sl d 119 38 [l0, some (.int i1), l2, l3, l4] [.int i1] H r := q_iload_n (mo_119 37 rfl) rfl rfl
theorem r119_38 : Runs xs sl d 119 38 [some (.ref a0), l1, l2, l3, l4] [s0] H r ↔ Runs xs sl d 119 39 [some (.ref a0), l1, l2, l3, l4] [.ref a0, s0] H r := q_aload_n (mo_119 38 rfl) rfl rfl
theorem r119_39 : Runs xs sl d 119 39 [l0, l1, l2, l3, l4] [.ref b1, s0] H r ↔ ∃ v, hO H b1 6 8 = some v ∧ Runs xs sl d 119 42 [l0, l1, l2, l3, l4] [v, s0] H r := q_getf (mo_119 39 rfl) mow_119 rfl rfl
theorem r119_42 : Runs xs sl d 119 42 [l0, l1, l2, l3, some (.int i4)] [s1, s0] H r ↔ Runs xs sl d 119 44 [l0, l1, l2, l3, some (.int i4)] [.int i4, s1, s0] H r := q_iload (mo_119 42 rfl) rfl rfl
theorem r119_44 : Runs xs sl d 119 44 [l0, l1, l2, l3, l4] [.int u2, .ref b1, s0] H r ↔ ∃ v, hA H b1 0 u2 = some v ∧ Runs xs sl d 119 45 [l0, l1, l2, l3, l4] [.int v, s0] H r := run_iald (mo_119 44 rfl) rfl
theorem r119_45 : Runs xs sl (d + 1) 119 45 [l0, l1, l2, l3, l4] [.int u1, .int u0] H r ↔ ∃ v H1, Runs xs sl d 14 0 [some (.int u0), some (.int u1)] [] H (v, H1) ∧ Runs xs sl (d + 1) 119 48 [l0, l1, l2, l3, l4] (v.toList ++ []) H1 r := q_callS (M' := 14) (as := [.int u0, .int u1]) (rest := []) (mo_119 45 rfl) mow_119 rfl mmx_14 rfl (Nat.le_of_ble_eq_true rfl) (Nat.le_of_ble_eq_true rfl) rfl rfl
theorem r119_48 : Runs xs sl d 119 48 [l0, l1, l2, l3, l4] [.int u0] H r ↔ r = (some (.int u0), H) := q_iret (mo_119 48 rfl) mrt_119
theorem r120_0 : Runs xs sl d 120 0 [l0, l1, l2, l3, l4] [] H r ↔ Runs xs sl d 120 1 [l0, l1, l2, l3, l4] [.int 0] H r := q_iconst (mo_120 0 rfl) rfl rfl
theorem r120_1 : Runs xs sl d 120 1 [l0, l1, some (.int i2), l3, l4] [.int u0] H r ↔ Runs xs sl d 120 2 [l0, l1, some (.int i2), some (.int u0), l4] [] H r := q_istore_n (mo_120 1 rfl) (Nat.le_of_ble_eq_true rfl) rfl rfl
theorem r120_2 : Runs xs sl d 120 2 [l0, l1, l2, some (.int i3), l4] [] H r ↔ Runs xs sl d 120 3 [l0, l1, l2, some (.int i3), l4] [.int i3] H r := q_iload_n (mo_120 2 rfl) rfl rfl
theorem r120_3 : Runs xs sl d 120 3 [l0, l1, some (.int i2), l3, l4] [s0] H r ↔ Runs xs sl d 120 4 [l0, l1, some (.int i2), l3, l4] [.int i2, s0] H r := q_iload_n (mo_120 3 rfl) rfl rfl
theorem r120_4 : Runs xs sl d 120 4 [l0, l1, l2, l3, l4] [.int u1, .int u0] H r ↔ if u1 ≤ u0 then Runs xs sl d 120 61 [l0, l1, l2, l3, l4] [] H r else Runs xs sl d 120 7 [l0, l1, l2, l3, l4] [] H r := q_icmp_ge (mo_120 4 rfl) rfl rfl
theorem r120_7 : Runs xs sl d 120 7 [l0, l1, l2, some (.int i3), l4] [] H r ↔ Runs xs sl d 120 8 [l0, l1, l2, some (.int i3), l4] [.int i3] H r := q_iload_n (mo_120 7 rfl) rfl rfl
theorem r120_8 : Runs xs sl d 120 8 [l0, l1, l2, l3, l4] [s0] H r ↔ Runs xs sl d 120 9 [l0, l1, l2, l3, l4] [.int 4, s0] H r := q_iconst (mo_120 8 rfl) rfl rfl
theorem r120_9 : Runs xs sl d 120 9 [l0, l1, l2, l3, l4] [.int u1, .int u0] H r ↔ Runs xs sl d 120 10 [l0, l1, l2, l3, l4] [.int (u0 * u1)] H r := q_imul (mo_120 9 rfl) rfl
theorem r120_10 : Runs xs sl d 120 10 [l0, l1, l2, some (.int i3), l4] [.int u0] H r ↔ Runs xs sl d 120 12 [l0, l1, l2, some (.int i3), some (.int u0)] [] H r := q_istore (mo_120 10 rfl) (Nat.le_of_ble_eq_true rfl) rfl rfl
theorem r120_12 : Runs xs sl d 120 12 [some (.ref a0), l1, l2, l3, l4] [] H r ↔ Runs xs sl d 120 13 [some (.ref a0), l1, l2, l3, l4] [.ref a0] H r := q_aload_n (mo_120 12 rfl) rfl rfl
theorem r120_13 : Runs xs sl d 120 13 [l0, some (.ref a1), l2, l3, l4] [s0] H r ↔ Runs xs sl d 120 14 [l0, some (.ref a1), l2, l3, l4] [.ref a1, s0] H r := q_aload_n (mo_120 13 rfl) rfl rfl
theorem r120_13n : Runs xs sl d 120 13 [l0, some .null, l2, l3, l4] [s0] H r ↔ Runs xs sl d 120 14 [l0, some .null, l2, l3, l4] [.null, s0] H r := q_aload_nN (mo_120 13 rfl) rfl rfl
theorem r120_14 : Runs xs sl d 120 14 [l0, l1, l2, l3, l4] [.ref b1, s0] H r ↔ ∃ v, hO H b1 0 1 = some v ∧ Runs xs sl d 120 17 [l0, l1, l2, l3, l4] [v, s0] H r := q_getf (mo_120 14 rfl) mow_120 rfl rfl
theorem r120_17 : Runs xs sl d 120 17 [l0, l1, l2, l3, some (.int i4)] [s1, s0] H r ↔ Runs xs sl d 120 19 [l0, l1, l2, l3, some (.int i4)] [.int i4, s1, s0] H r := q_iload (mo_120 17 rfl) rfl rfl
theorem r120_19 : Runs xs sl d 120 19 [l0, l1, l2, l3, l4] [.int u2, .ref b1, s0] H r ↔ ∃ v, hA H b1 0 u2 = some v ∧ Runs xs sl d 120 20 [l0, l1, l2, l3, l4] [.int v, s0] H r := run_iald (mo_120 19 rfl) rfl
theorem r120_20 : Runs xs sl d 120 20 [l0, some (.ref a1), l2, l3, l4] [s1, s0] H r ↔ Runs xs sl d 120 21 [l0, some (.ref a1), l2, l3, l4] [.ref a1, s1, s0] H r := q_aload_n (mo_120 20 rfl) rfl rfl
theorem r120_20n : Runs xs sl d 120 20 [l0, some .null, l2, l3, l4] [s1, s0] H r ↔ Runs xs sl d 120 21 [l0, some .null, l2, l3, l4] [.null, s1, s0] H r := q_aload_nN (mo_120 20 rfl) rfl rfl
theorem r120_21 : Runs xs sl d 120 21 [l0, l1, l2, l3, l4] [.ref b2, s1, s0] H r ↔ ∃ v, hO H b2 0 1 = some v ∧ Runs xs sl d 120 24 [l0, l1, l2, l3, l4] [v, s1, s0] H r := q_getf (mo_120 21 rfl) mow_120 rfl rfl
theorem r120_24 : Runs xs sl d 120 24 [l0, l1, l2, l3, some (.int i4)] [s2, s1, s0] H r ↔ Runs xs sl d 120 26 [l0, l1, l2, l3, some (.int i4)] [.int i4, s2, s1, s0] H r := q_iload (mo_120 24 rfl) rfl rfl
theorem r120_26 : Runs xs sl d 120 26 [l0, l1, l2, l3, l4] [s3, s2, s1, s0] H r ↔ Runs xs sl d 120 27 [l0, l1, l2, l3, l4] [.int 1, s3, s2, s1, s0] H r := q_iconst (mo_120 26 rfl) rfl rfl
theorem r120_27 : Runs xs sl d 120 27 [l0, l1, l2, l3, l4] [.int u4, .int u3, s2, s1, s0] H r ↔ Runs xs sl d 120 28 [l0, l1, l2, l3, l4] [.int (u3 + u4), s2, s1, s0] H r := q_iadd (mo_120 27 rfl) rfl
theorem r120_28 : Runs xs sl d 120 28 [l0, l1, l2, l3, l4] [.int u3, .ref b2, s1, s0] H r ↔ ∃ v, hA H b2 0 u3 = some v ∧ Runs xs sl d 120 29 [l0, l1, l2, l3, l4] [.int v, s1, s0] H r := run_iald (mo_120 28 rfl) rfl
theorem r120_29 : Runs xs sl d 120 29 [l0, some (.ref a1), l2, l3, l4] [s2, s1, s0] H r ↔ Runs xs sl d 120 30 [l0, some (.ref a1), l2, l3, l4] [.ref a1, s2, s1, s0] H r := q_aload_n (mo_120 29 rfl) rfl rfl
theorem r120_29n : Runs xs sl d 120 29 [l0, some .null, l2, l3, l4] [s2, s1, s0] H r ↔ Runs xs sl d 120 30 [l0, some .null, l2, l3, l4] [.null, s2, s1, s0] H r := q_aload_nN (mo_120 29 rfl) rfl rfl
theorem r120_30 : Runs xs sl d 120 30 [l0, l1, l2, l3, l4] [.ref b3, s2, s1, s0] H r ↔ ∃ v, hO H b3 0 1 = some v ∧ Runs xs sl d 120 33 [l0, l1, l2, l3, l4] [v, s2, s1, s0] H r := q_getf (mo_120 30 rfl) mow_120 rfl rfl
theorem r120_33 : Runs xs sl d 120 33 [l0, l1, l2, l3, some (.int i4)] [s3, s2, s1, s0] H r ↔ Runs xs sl d 120 35 [l0, l1, l2, l3, some (.int i4)] [.int i4, s3, s2, s1, s0] H r := q_iload (mo_120 33 rfl) rfl rfl
theorem r120_35 : Runs xs sl d 120 35 [l0, l1, l2, l3, l4] [s4, s3, s2, s1, s0] H r ↔ Runs xs sl d 120 36 [l0, l1, l2, l3, l4] [.int 2, s4, s3, s2, s1, s0] H r := q_iconst (mo_120 35 rfl) rfl rfl
theorem r120_36 : Runs xs sl d 120 36 [l0, l1, l2, l3, l4] [.int u5, .int u4, s3, s2, s1, s0] H r ↔ Runs xs sl d 120 37 [l0, l1, l2, l3, l4] [.int (u4 + u5), s3, s2, s1, s0] H r := q_iadd (mo_120 36 rfl) rfl
theorem r120_37 : Runs xs sl d 120 37 [l0, l1, l2, l3, l4] [.int u4, .ref b3, s2, s1, s0] H r ↔ ∃ v, hA H b3 0 u4 = some v ∧ Runs xs sl d 120 38 [l0, l1, l2, l3, l4] [.int v, s2, s1, s0] H r := run_iald (mo_120 37 rfl) rfl
theorem r120_38 : Runs xs sl d 120 38 [l0, some (.ref a1), l2, l3, l4] [s3, s2, s1, s0] H r ↔ Runs xs sl d 120 39 [l0, some (.ref a1), l2, l3, l4] [.ref a1, s3, s2, s1, s0] H r := q_aload_n (mo_120 38 rfl) rfl rfl
theorem r120_38n : Runs xs sl d 120 38 [l0, some .null, l2, l3, l4] [s3, s2, s1, s0] H r ↔ Runs xs sl d 120 39 [l0, some .null, l2, l3, l4] [.null, s3, s2, s1, s0] H r := q_aload_nN (mo_120 38 rfl) rfl rfl
theorem r120_39 : Runs xs sl d 120 39 [l0, l1, l2, l3, l4] [.ref b4, s3, s2, s1, s0] H r ↔ ∃ v, hO H b4 0 1 = some v ∧ Runs xs sl d 120 42 [l0, l1, l2, l3, l4] [v, s3, s2, s1, s0] H r := q_getf (mo_120 39 rfl) mow_120 rfl rfl
theorem r120_42 : Runs xs sl d 120 42 [l0, l1, l2, l3, some (.int i4)] [s4, s3, s2, s1, s0] H r ↔ Runs xs sl d 120 44 [l0, l1, l2, l3, some (.int i4)] [.int i4, s4, s3, s2, s1, s0] H r := q_iload (mo_120 42 rfl) rfl rfl
theorem r120_44 : Runs xs sl d 120 44 [l0, l1, l2, l3, l4] [s5, s4, s3, s2, s1, s0] H r ↔ Runs xs sl d 120 45 [l0, l1, l2, l3, l4] [.int 3, s5, s4, s3, s2, s1, s0] H r := q_iconst (mo_120 44 rfl) rfl rfl
theorem r120_45 : Runs xs sl d 120 45 [l0, l1, l2, l3, l4] [.int u6, .int u5, s4, s3, s2, s1, s0] H r ↔ Runs xs sl d 120 46 [l0, l1, l2, l3, l4] [.int (u5 + u6), s4, s3, s2, s1, s0] H r := q_iadd (mo_120 45 rfl) rfl
theorem r120_46 : Runs xs sl d 120 46 [l0, l1, l2, l3, l4] [.int u5, .ref b4, s3, s2, s1, s0] H r ↔ ∃ v, hA H b4 0 u5 = some v ∧ Runs xs sl d 120 47 [l0, l1, l2, l3, l4] [.int v, s3, s2, s1, s0] H r := run_iald (mo_120 46 rfl) rfl
theorem r120_47 (hc : hC H b0 = some 6) : Runs xs sl (d + 1) 120 47 [l0, l1, l2, l3, l4] [.int u4, .int u3, .int u2, .int u1, .ref b0] H r ↔ ∃ v H1, Runs xs sl d 121 0 [some (.ref b0), some (.int u1), some (.int u2), some (.int u3), some (.int u4)] [] H (v, H1) ∧ Runs xs sl (d + 1) 120 50 [l0, l1, l2, l3, l4] (v.toList ++ []) H1 r := q_callV (M' := 121) (as := [.int u1, .int u2, .int u3, .int u4]) (rest := []) (mo_120 47 rfl) mow_120 rfl mcs_121 mmx_121 rfl (Nat.le_of_ble_eq_true rfl) (Nat.le_of_ble_eq_true rfl) rfl rfl hc
theorem r120_50 : Runs xs sl d 120 50 [l0, l1, l2, l3, l4] [.int u0] H r ↔ if ¬ u0 = 0 then Runs xs sl d 120 55 [l0, l1, l2, l3, l4] [] H r else Runs xs sl d 120 53 [l0, l1, l2, l3, l4] [] H r := q_if_ne (mo_120 50 rfl) rfl rfl
theorem r120_53 : Runs xs sl d 120 53 [l0, l1, l2, some (.int i3), l4] [] H r ↔ Runs xs sl d 120 54 [l0, l1, l2, some (.int i3), l4] [.int i3] H r := q_iload_n (mo_120 53 rfl) rfl rfl
theorem r120_54 : Runs xs sl d 120 54 [l0, l1, l2, l3, l4] [.int u0] H r ↔ r = (some (.int u0), H) := q_iret (mo_120 54 rfl) mrt_120
theorem r120_55 : Runs xs sl d 120 55 [l0, l1, some (.int i2), some (.int i3), l4] [] H r ↔ Runs xs sl d 120 58 [l0, l1, some (.int i2), some (.int (i3 + 1)), l4] [] H r := q_iinc (mo_120 55 rfl) rfl (Nat.le_of_ble_eq_true rfl) rfl rfl
theorem r120_58 : Runs xs sl d 120 58 [l0, l1, l2, l3, l4] [] H r ↔ Runs xs sl d 120 2 [l0, l1, l2, l3, l4] [] H r := q_goto (mo_120 58 rfl) rfl
theorem r120_61 : Runs xs sl d 120 61 [l0, l1, some (.int i2), l3, l4] [] H r ↔ Runs xs sl d 120 62 [l0, l1, some (.int i2), l3, l4] [.int i2] H r := q_iload_n (mo_120 61 rfl) rfl rfl
theorem r120_62 : Runs xs sl d 120 62 [l0, l1, l2, l3, l4] [.int u0] H r ↔ r = (some (.int u0), H) := q_iret (mo_120 62 rfl) mrt_120
theorem r121_0 : Runs xs sl d 121 0 [l0, some (.int i1), l2, l3, l4] [] H r ↔ Runs xs sl d 121 1 [l0, some (.int i1), l2, l3, l4] [.int i1] H r := q_iload_n (mo_121 0 rfl) rfl rfl
theorem r121_1_c0 : Runs xs sl d 121 1 [l0, l1, l2, l3, l4] [.int 0] H r ↔ Runs xs sl d 121 36 [l0, l1, l2, l3, l4] [] H r := q_tsw (off := 35) (mo_121 1 rfl) rfl rfl
theorem r121_1_c1 : Runs xs sl d 121 1 [l0, l1, l2, l3, l4] [.int 1] H r ↔ Runs xs sl d 121 45 [l0, l1, l2, l3, l4] [] H r := q_tsw (off := 44) (mo_121 1 rfl) rfl rfl
theorem r121_1_c2 : Runs xs sl d 121 1 [l0, l1, l2, l3, l4] [.int 2] H r ↔ Runs xs sl d 121 53 [l0, l1, l2, l3, l4] [] H r := q_tsw (off := 52) (mo_121 1 rfl) rfl rfl
theorem r121_1_c3 : Runs xs sl d 121 1 [l0, l1, l2, l3, l4] [.int 3] H r ↔ Runs xs sl d 121 61 [l0, l1, l2, l3, l4] [] H r := q_tsw (off := 60) (mo_121 1 rfl) rfl rfl
theorem r121_1_c4 : Runs xs sl d 121 1 [l0, l1, l2, l3, l4] [.int 4] H r ↔ Runs xs sl d 121 69 [l0, l1, l2, l3, l4] [] H r := q_tsw (off := 68) (mo_121 1 rfl) rfl rfl
theorem r121_1_d (h : u0.toInt < 0 ∨ 4 < u0.toInt) : Runs xs sl d 121 1 [l0, l1, l2, l3, l4] [.int u0] H r ↔ Runs xs sl d 121 76 [l0, l1, l2, l3, l4] [] H r := q_tswD (mo_121 1 rfl) rfl h
theorem r121_36 : Runs xs sl d 121 36 [some (.ref a0), l1, l2, l3, l4] [] H r ↔ Runs xs sl d 121 37 [some (.ref a0), l1, l2, l3, l4] [.ref a0] H r := q_aload_n (mo_121 36 rfl) rfl rfl
theorem r121_37 : Runs xs sl d 121 37 [l0, l1, some (.int i2), l3, l4] [s0] H r ↔ Runs xs sl d 121 38 [l0, l1, some (.int i2), l3, l4] [.int i2, s0] H r := q_iload_n (mo_121 37 rfl) rfl rfl
theorem r121_38 : Runs xs sl d 121 38 [l0, l1, l2, some (.int i3), l4] [s1, s0] H r ↔ Runs xs sl d 121 39 [l0, l1, l2, some (.int i3), l4] [.int i3, s1, s0] H r := q_iload_n (mo_121 38 rfl) rfl rfl
theorem r121_39 : Runs xs sl d 121 39 [l0, l1, l2, l3, some (.int i4)] [s2, s1, s0] H r ↔ Runs xs sl d 121 41 [l0, l1, l2, l3, some (.int i4)] [.int i4, s2, s1, s0] H r := q_iload (mo_121 39 rfl) rfl rfl
theorem r121_41 (hc : hC H b0 = some 6) : Runs xs sl (d + 1) 121 41 [l0, l1, l2, l3, l4] [.int u3, .int u2, .int u1, .ref b0] H r ↔ ∃ v H1, Runs xs sl d 117 0 [some (.ref b0), some (.int u1), some (.int u2), some (.int u3), none] [] H (v, H1) ∧ Runs xs sl (d + 1) 121 44 [l0, l1, l2, l3, l4] (v.toList ++ []) H1 r := q_callV (M' := 117) (as := [.int u1, .int u2, .int u3]) (rest := []) (mo_121 41 rfl) mow_121 rfl mcs_117 mmx_117 rfl (Nat.le_of_ble_eq_true rfl) (Nat.le_of_ble_eq_true rfl) rfl rfl hc
theorem r121_44 (h : u0 = 0 ∨ u0 = 1) : Runs xs sl d 121 44 [l0, l1, l2, l3, l4] [.int u0] H r ↔ r = (some (.int u0), H) := q_zret (mo_121 44 rfl) mrt_121 h
theorem r121_45 : Runs xs sl d 121 45 [some (.ref a0), l1, l2, l3, l4] [] H r ↔ Runs xs sl d 121 46 [some (.ref a0), l1, l2, l3, l4] [.ref a0] H r := q_aload_n (mo_121 45 rfl) rfl rfl
theorem r121_46 : Runs xs sl d 121 46 [l0, l1, some (.int i2), l3, l4] [s0] H r ↔ Runs xs sl d 121 47 [l0, l1, some (.int i2), l3, l4] [.int i2, s0] H r := q_iload_n (mo_121 46 rfl) rfl rfl
theorem r121_47 : Runs xs sl d 121 47 [l0, l1, l2, some (.int i3), l4] [s1, s0] H r ↔ Runs xs sl d 121 48 [l0, l1, l2, some (.int i3), l4] [.int i3, s1, s0] H r := q_iload_n (mo_121 47 rfl) rfl rfl
theorem r121_48 : Runs xs sl d 121 48 [l0, l1, l2, l3, l4] [s2, s1, s0] H r ↔ Runs xs sl d 121 49 [l0, l1, l2, l3, l4] [.int 0, s2, s1, s0] H r := q_iconst (mo_121 48 rfl) rfl rfl
theorem r121_49 (hc : hC H b0 = some 6) : Runs xs sl (d + 1) 121 49 [l0, l1, l2, l3, l4] [.int u3, .int u2, .int u1, .ref b0] H r ↔ ∃ v H1, Runs xs sl d 118 0 [some (.ref b0), some (.int u1), some (.int u2), some (.int u3), none] [] H (v, H1) ∧ Runs xs sl (d + 1) 121 52 [l0, l1, l2, l3, l4] (v.toList ++ []) H1 r := q_callV (M' := 118) (as := [.int u1, .int u2, .int u3]) (rest := []) (mo_121 49 rfl) mow_121 rfl mcs_118 mmx_118 rfl (Nat.le_of_ble_eq_true rfl) (Nat.le_of_ble_eq_true rfl) rfl rfl hc
theorem r121_52 (h : u0 = 0 ∨ u0 = 1) : Runs xs sl d 121 52 [l0, l1, l2, l3, l4] [.int u0] H r ↔ r = (some (.int u0), H) := q_zret (mo_121 52 rfl) mrt_121 h
theorem r121_53 : Runs xs sl d 121 53 [some (.ref a0), l1, l2, l3, l4] [] H r ↔ Runs xs sl d 121 54 [some (.ref a0), l1, l2, l3, l4] [.ref a0] H r := q_aload_n (mo_121 53 rfl) rfl rfl
theorem r121_54 : Runs xs sl d 121 54 [l0, l1, some (.int i2), l3, l4] [s0] H r ↔ Runs xs sl d 121 55 [l0, l1, some (.int i2), l3, l4] [.int i2, s0] H r := q_iload_n (mo_121 54 rfl) rfl rfl
theorem r121_55 : Runs xs sl d 121 55 [l0, l1, l2, some (.int i3), l4] [s1, s0] H r ↔ Runs xs sl d 121 56 [l0, l1, l2, some (.int i3), l4] [.int i3, s1, s0] H r := q_iload_n (mo_121 55 rfl) rfl rfl
theorem r121_56 : Runs xs sl d 121 56 [l0, l1, l2, l3, l4] [s2, s1, s0] H r ↔ Runs xs sl d 121 57 [l0, l1, l2, l3, l4] [.int 1, s2, s1, s0] H r := q_iconst (mo_121 56 rfl) rfl rfl
theorem r121_57 (hc : hC H b0 = some 6) : Runs xs sl (d + 1) 121 57 [l0, l1, l2, l3, l4] [.int u3, .int u2, .int u1, .ref b0] H r ↔ ∃ v H1, Runs xs sl d 122 0 [some (.ref b0), some (.int u1), some (.int u2), some (.int u3)] [] H (v, H1) ∧ Runs xs sl (d + 1) 121 60 [l0, l1, l2, l3, l4] (v.toList ++ []) H1 r := q_callV (M' := 122) (as := [.int u1, .int u2, .int u3]) (rest := []) (mo_121 57 rfl) mow_121 rfl mcs_122 mmx_122 rfl (Nat.le_of_ble_eq_true rfl) (Nat.le_of_ble_eq_true rfl) rfl rfl hc
theorem r121_60 (h : u0 = 0 ∨ u0 = 1) : Runs xs sl d 121 60 [l0, l1, l2, l3, l4] [.int u0] H r ↔ r = (some (.int u0), H) := q_zret (mo_121 60 rfl) mrt_121 h
theorem r121_61 : Runs xs sl d 121 61 [some (.ref a0), l1, l2, l3, l4] [] H r ↔ Runs xs sl d 121 62 [some (.ref a0), l1, l2, l3, l4] [.ref a0] H r := q_aload_n (mo_121 61 rfl) rfl rfl
theorem r121_62 : Runs xs sl d 121 62 [l0, l1, some (.int i2), l3, l4] [s0] H r ↔ Runs xs sl d 121 63 [l0, l1, some (.int i2), l3, l4] [.int i2, s0] H r := q_iload_n (mo_121 62 rfl) rfl rfl
theorem r121_63 : Runs xs sl d 121 63 [l0, l1, l2, some (.int i3), l4] [s1, s0] H r ↔ Runs xs sl d 121 64 [l0, l1, l2, some (.int i3), l4] [.int i3, s1, s0] H r := q_iload_n (mo_121 63 rfl) rfl rfl
theorem r121_64 : Runs xs sl d 121 64 [l0, l1, l2, l3, l4] [s2, s1, s0] H r ↔ Runs xs sl d 121 65 [l0, l1, l2, l3, l4] [.int 2, s2, s1, s0] H r := q_iconst (mo_121 64 rfl) rfl rfl
theorem r121_65 (hc : hC H b0 = some 6) : Runs xs sl (d + 1) 121 65 [l0, l1, l2, l3, l4] [.int u3, .int u2, .int u1, .ref b0] H r ↔ ∃ v H1, Runs xs sl d 122 0 [some (.ref b0), some (.int u1), some (.int u2), some (.int u3)] [] H (v, H1) ∧ Runs xs sl (d + 1) 121 68 [l0, l1, l2, l3, l4] (v.toList ++ []) H1 r := q_callV (M' := 122) (as := [.int u1, .int u2, .int u3]) (rest := []) (mo_121 65 rfl) mow_121 rfl mcs_122 mmx_122 rfl (Nat.le_of_ble_eq_true rfl) (Nat.le_of_ble_eq_true rfl) rfl rfl hc
theorem r121_68 (h : u0 = 0 ∨ u0 = 1) : Runs xs sl d 121 68 [l0, l1, l2, l3, l4] [.int u0] H r ↔ r = (some (.int u0), H) := q_zret (mo_121 68 rfl) mrt_121 h
theorem r121_69 : Runs xs sl d 121 69 [some (.ref a0), l1, l2, l3, l4] [] H r ↔ Runs xs sl d 121 70 [some (.ref a0), l1, l2, l3, l4] [.ref a0] H r := q_aload_n (mo_121 69 rfl) rfl rfl
theorem r121_70 : Runs xs sl d 121 70 [l0, l1, some (.int i2), l3, l4] [s0] H r ↔ Runs xs sl d 121 71 [l0, l1, some (.int i2), l3, l4] [.int i2, s0] H r := q_iload_n (mo_121 70 rfl) rfl rfl
theorem r121_71 : Runs xs sl d 121 71 [l0, l1, l2, some (.int i3), l4] [s1, s0] H r ↔ Runs xs sl d 121 72 [l0, l1, l2, some (.int i3), l4] [.int i3, s1, s0] H r := q_iload_n (mo_121 71 rfl) rfl rfl
theorem r121_72 (hc : hC H b0 = some 6) : Runs xs sl (d + 1) 121 72 [l0, l1, l2, l3, l4] [.int u2, .int u1, .ref b0] H r ↔ ∃ v H1, Runs xs sl d 127 0 [some (.ref b0), some (.int u1), some (.int u2), none, none] [] H (v, H1) ∧ Runs xs sl (d + 1) 121 75 [l0, l1, l2, l3, l4] (v.toList ++ []) H1 r := q_callV (M' := 127) (as := [.int u1, .int u2]) (rest := []) (mo_121 72 rfl) mow_121 rfl mcs_127 mmx_127 rfl (Nat.le_of_ble_eq_true rfl) (Nat.le_of_ble_eq_true rfl) rfl rfl hc
theorem r121_75 (h : u0 = 0 ∨ u0 = 1) : Runs xs sl d 121 75 [l0, l1, l2, l3, l4] [.int u0] H r ↔ r = (some (.int u0), H) := q_zret (mo_121 75 rfl) mrt_121 h
theorem r121_76 : Runs xs sl d 121 76 [some (.ref a0), l1, l2, l3, l4] [] H r ↔ Runs xs sl d 121 77 [some (.ref a0), l1, l2, l3, l4] [.ref a0] H r := q_aload_n (mo_121 76 rfl) rfl rfl
theorem r121_77 (hc : hC H b0 = some 6) : Runs xs sl (d + 1) 121 77 [l0, l1, l2, l3, l4] [.ref b0] H r ↔ ∃ v H1, Runs xs sl d 128 0 [some (.ref b0), none] [] H (v, H1) ∧ Runs xs sl (d + 1) 121 80 [l0, l1, l2, l3, l4] (v.toList ++ []) H1 r := q_callV (M' := 128) (as := []) (rest := []) (mo_121 77 rfl) mow_121 rfl mcs_128 mmx_128 rfl (Nat.le_of_ble_eq_true rfl) (Nat.le_of_ble_eq_true rfl) rfl rfl hc
theorem r121_80 : Runs xs sl d 121 80 [l0, l1, l2, l3, l4] [] H r ↔ Runs xs sl d 121 81 [l0, l1, l2, l3, l4] [.int 1] H r := q_iconst (mo_121 80 rfl) rfl rfl
theorem r121_81 (h : u0 = 0 ∨ u0 = 1) : Runs xs sl d 121 81 [l0, l1, l2, l3, l4] [.int u0] H r ↔ r = (some (.int u0), H) := q_zret (mo_121 81 rfl) mrt_121 h
theorem r122_0 : Runs xs sl d 122 0 [some (.ref a0), l1, l2, l3] [] H r ↔ Runs xs sl d 122 1 [some (.ref a0), l1, l2, l3] [.ref a0] H r := q_aload_n (mo_122 0 rfl) rfl rfl
theorem r122_1 : Runs xs sl d 122 1 [l0, l1, l2, l3] [.ref b0] H r ↔ ∃ v, hO H b0 6 0 = some v ∧ Runs xs sl d 122 4 [l0, l1, l2, l3] [v] H r := q_getf (mo_122 1 rfl) mow_122 rfl rfl
theorem r122_4 : Runs xs sl d 122 4 [l0, some (.int i1), l2, l3] [s0] H r ↔ Runs xs sl d 122 5 [l0, some (.int i1), l2, l3] [.int i1, s0] H r := q_iload_n (mo_122 4 rfl) rfl rfl
theorem r122_5 (hc : hC H b0 = some 8) : Runs xs sl (d + 1) 122 5 [l0, l1, l2, l3] [.int u1, .ref b0] H r ↔ ∃ v H1, Runs xs sl d 153 0 [some (.ref b0), some (.int u1)] [] H (v, H1) ∧ Runs xs sl (d + 1) 122 8 [l0, l1, l2, l3] (v.toList ++ []) H1 r := q_callV (M' := 153) (as := [.int u1]) (rest := []) (mo_122 5 rfl) mow_122 rfl mcs_153 mmx_153 rfl (Nat.le_of_ble_eq_true rfl) (Nat.le_of_ble_eq_true rfl) rfl rfl hc
theorem r122_8 : Runs xs sl d 122 8 [l0, l1, l2, l3] [.int u0] H r ↔ if u0 = 0 then Runs xs sl d 122 32 [l0, l1, l2, l3] [] H r else Runs xs sl d 122 11 [l0, l1, l2, l3] [] H r := q_if_eq (mo_122 8 rfl) rfl rfl
theorem r122_11 : Runs xs sl d 122 11 [l0, l1, some (.int i2), l3] [] H r ↔ Runs xs sl d 122 12 [l0, l1, some (.int i2), l3] [.int i2] H r := q_iload_n (mo_122 11 rfl) rfl rfl
theorem r122_12 : Runs xs sl d 122 12 [l0, l1, l2, l3] [.int u0] H r ↔ if u0 < 0 then Runs xs sl d 122 32 [l0, l1, l2, l3] [] H r else Runs xs sl d 122 15 [l0, l1, l2, l3] [] H r := q_if_lt (mo_122 12 rfl) rfl rfl
theorem r122_15 : Runs xs sl d 122 15 [l0, l1, some (.int i2), l3] [] H r ↔ Runs xs sl d 122 16 [l0, l1, some (.int i2), l3] [.int i2] H r := q_iload_n (mo_122 15 rfl) rfl rfl
theorem r122_16 : Runs xs sl d 122 16 [some (.ref a0), l1, l2, l3] [s0] H r ↔ Runs xs sl d 122 17 [some (.ref a0), l1, l2, l3] [.ref a0, s0] H r := q_aload_n (mo_122 16 rfl) rfl rfl
theorem r122_17 : Runs xs sl d 122 17 [l0, l1, l2, l3] [.ref b1, s0] H r ↔ ∃ v, hO H b1 6 1 = some v ∧ Runs xs sl d 122 20 [l0, l1, l2, l3] [v, s0] H r := q_getf (mo_122 17 rfl) mow_122 rfl rfl
theorem r122_20 : Runs xs sl d 122 20 [l0, l1, l2, l3] [.int u1, .int u0] H r ↔ if u1 ≤ u0 then Runs xs sl d 122 32 [l0, l1, l2, l3] [] H r else Runs xs sl d 122 23 [l0, l1, l2, l3] [] H r := q_icmp_ge (mo_122 20 rfl) rfl rfl
theorem r122_23 : Runs xs sl d 122 23 [some (.ref a0), l1, l2, l3] [] H r ↔ Runs xs sl d 122 24 [some (.ref a0), l1, l2, l3] [.ref a0] H r := q_aload_n (mo_122 23 rfl) rfl rfl
theorem r122_24 : Runs xs sl d 122 24 [l0, some (.int i1), l2, l3] [s0] H r ↔ Runs xs sl d 122 25 [l0, some (.int i1), l2, l3] [.int i1, s0] H r := q_iload_n (mo_122 24 rfl) rfl rfl
theorem r122_25 : Runs xs sl d 122 25 [l0, l1, some (.int i2), l3] [s1, s0] H r ↔ Runs xs sl d 122 26 [l0, l1, some (.int i2), l3] [.int i2, s1, s0] H r := q_iload_n (mo_122 25 rfl) rfl rfl
theorem r122_26 (hc : hC H b0 = some 6) : Runs xs sl (d + 1) 122 26 [l0, l1, l2, l3] [.int u2, .int u1, .ref b0] H r ↔ ∃ v H1, Runs xs sl d 123 0 [some (.ref b0), some (.int u1), some (.int u2)] [] H (v, H1) ∧ Runs xs sl (d + 1) 122 29 [l0, l1, l2, l3] (v.toList ++ []) H1 r := q_callV (M' := 123) (as := [.int u1, .int u2]) (rest := []) (mo_122 26 rfl) mow_122 rfl mcs_123 mmx_123 rfl (Nat.le_of_ble_eq_true rfl) (Nat.le_of_ble_eq_true rfl) rfl rfl hc
theorem r122_29 : Runs xs sl d 122 29 [l0, l1, l2, l3] [.int u0] H r ↔ if ¬ u0 = 0 then Runs xs sl d 122 34 [l0, l1, l2, l3] [] H r else Runs xs sl d 122 32 [l0, l1, l2, l3] [] H r := q_if_ne (mo_122 29 rfl) rfl rfl
theorem r122_32 : Runs xs sl d 122 32 [l0, l1, l2, l3] [] H r ↔ Runs xs sl d 122 33 [l0, l1, l2, l3] [.int 0] H r := q_iconst (mo_122 32 rfl) rfl rfl
theorem r122_33 (h : u0 = 0 ∨ u0 = 1) : Runs xs sl d 122 33 [l0, l1, l2, l3] [.int u0] H r ↔ r = (some (.int u0), H) := q_zret (mo_122 33 rfl) mrt_122 h
theorem r122_34 : Runs xs sl d 122 34 [some (.ref a0), l1, l2, l3] [] H r ↔ Runs xs sl d 122 35 [some (.ref a0), l1, l2, l3] [.ref a0] H r := q_aload_n (mo_122 34 rfl) rfl rfl
theorem r122_35 : Runs xs sl d 122 35 [some (.ref a0), l1, l2, l3] [s0] H r ↔ Runs xs sl d 122 36 [some (.ref a0), l1, l2, l3] [.ref a0, s0] H r := q_aload_n (mo_122 35 rfl) rfl rfl
theorem r122_36 : Runs xs sl d 122 36 [l0, l1, l2, l3] [.ref b1, s0] H r ↔ ∃ v, hO H b1 6 2 = some v ∧ Runs xs sl d 122 39 [l0, l1, l2, l3] [v, s0] H r := q_getf (mo_122 36 rfl) mow_122 rfl rfl
theorem r122_39 : Runs xs sl d 122 39 [l0, some (.int i1), l2, l3] [s1, s0] H r ↔ Runs xs sl d 122 40 [l0, some (.int i1), l2, l3] [.int i1, s1, s0] H r := q_iload_n (mo_122 39 rfl) rfl rfl
theorem r122_40 : Runs xs sl d 122 40 [l0, l1, l2, l3] [s2, s1, s0] H r ↔ Runs xs sl d 122 42 [l0, l1, l2, l3] [.int 6, s2, s1, s0] H r := q_bipush (mo_122 40 rfl) rfl rfl
theorem r122_42 : Runs xs sl d 122 42 [l0, l1, l2, l3] [.int u3, .int u2, s1, s0] H r ↔ Runs xs sl d 122 43 [l0, l1, l2, l3] [.int (u2 * u3), s1, s0] H r := q_imul (mo_122 42 rfl) rfl
theorem r122_43 : Runs xs sl d 122 43 [l0, l1, some (.int i2), l3] [s2, s1, s0] H r ↔ Runs xs sl d 122 44 [l0, l1, some (.int i2), l3] [.int i2, s2, s1, s0] H r := q_iload_n (mo_122 43 rfl) rfl rfl
theorem r122_44 : Runs xs sl d 122 44 [l0, l1, l2, some (.int i3)] [s3, s2, s1, s0] H r ↔ Runs xs sl d 122 45 [l0, l1, l2, some (.int i3)] [.int i3, s3, s2, s1, s0] H r := q_iload_n (mo_122 44 rfl) rfl rfl
theorem r122_45 (hc : hC H b0 = some 6) : Runs xs sl (d + 1) 122 45 [l0, l1, l2, l3] [.int u4, .int u3, .int u2, .ref b1, .ref b0] H r ↔ ∃ v H1, Runs xs sl d 126 0 [some (.ref b0), some (.ref b1), some (.int u2), some (.int u3), some (.int u4), none, none, none, none] [] H (v, H1) ∧ Runs xs sl (d + 1) 122 48 [l0, l1, l2, l3] (v.toList ++ []) H1 r := q_callV (M' := 126) (as := [.ref b1, .int u2, .int u3, .int u4]) (rest := []) (mo_122 45 rfl) mow_122 rfl mcs_126 mmx_126 rfl (Nat.le_of_ble_eq_true rfl) (Nat.le_of_ble_eq_true rfl) rfl rfl hc
theorem r122_48 : Runs xs sl d 122 48 [l0, l1, l2, l3] [.int u0] H r ↔ Runs xs sl d 122 49 [l0, l1, l2, l3] [] H r := q_pop (mo_122 48 rfl) rfl rfl
theorem r122_49 : Runs xs sl d 122 49 [some (.ref a0), l1, l2, l3] [] H r ↔ Runs xs sl d 122 50 [some (.ref a0), l1, l2, l3] [.ref a0] H r := q_aload_n (mo_122 49 rfl) rfl rfl
theorem r122_50 : Runs xs sl d 122 50 [l0, l1, l2, l3] [.ref b0] H r ↔ ∃ v, hO H b0 6 7 = some v ∧ Runs xs sl d 122 53 [l0, l1, l2, l3] [v] H r := q_getf (mo_122 50 rfl) mow_122 rfl rfl
theorem r122_53 : Runs xs sl d 122 53 [l0, l1, some (.int i2), l3] [s0] H r ↔ Runs xs sl d 122 54 [l0, l1, some (.int i2), l3] [.int i2, s0] H r := q_iload_n (mo_122 53 rfl) rfl rfl
theorem r122_54 : Runs xs sl d 122 54 [l0, l1, l2, l3] [s1, s0] H r ↔ Runs xs sl d 122 55 [l0, l1, l2, l3] [.int 1, s1, s0] H r := q_iconst (mo_122 54 rfl) rfl rfl
theorem r122_55 : Runs xs sl d 122 55 [l0, l1, l2, l3] [.int u2, .int u1, .ref b0] H r ↔ ∃ H1, hBw H b0 u1 u2 = some H1 ∧ Runs xs sl d 122 56 [l0, l1, l2, l3] [] H1 r := run_bast (mo_122 55 rfl) rfl
theorem r122_56 : Runs xs sl d 122 56 [l0, l1, l2, l3] [] H r ↔ Runs xs sl d 122 57 [l0, l1, l2, l3] [.int 1] H r := q_iconst (mo_122 56 rfl) rfl rfl
theorem r122_57 (h : u0 = 0 ∨ u0 = 1) : Runs xs sl d 122 57 [l0, l1, l2, l3] [.int u0] H r ↔ r = (some (.int u0), H) := q_zret (mo_122 57 rfl) mrt_122 h
theorem r123_0 : Runs xs sl d 123 0 [some (.ref a0), l1, l2] [] H r ↔ Runs xs sl d 123 1 [some (.ref a0), l1, l2] [.ref a0] H r := q_aload_n (mo_123 0 rfl) rfl rfl
theorem r123_1 : Runs xs sl d 123 1 [l0, l1, some (.int i2)] [s0] H r ↔ Runs xs sl d 123 2 [l0, l1, some (.int i2)] [.int i2, s0] H r := q_iload_n (mo_123 1 rfl) rfl rfl
theorem r123_2 (hc : hC H b0 = some 6) : Runs xs sl (d + 1) 123 2 [l0, l1, l2] [.int u1, .ref b0] H r ↔ ∃ v H1, Runs xs sl d 124 0 [some (.ref b0), some (.int u1)] [] H (v, H1) ∧ Runs xs sl (d + 1) 123 5 [l0, l1, l2] (v.toList ++ []) H1 r := q_callV (M' := 124) (as := [.int u1]) (rest := []) (mo_123 2 rfl) mow_123 rfl mcs_124 mmx_124 rfl (Nat.le_of_ble_eq_true rfl) (Nat.le_of_ble_eq_true rfl) rfl rfl hc
theorem r123_5 : Runs xs sl d 123 5 [l0, l1, l2] [s0] H r ↔ Runs xs sl d 123 6 [l0, l1, l2] [.int 1, s0] H r := q_iconst (mo_123 5 rfl) rfl rfl
theorem r123_6 : Runs xs sl d 123 6 [l0, l1, l2] [.int u1, .int u0] H r ↔ if ¬ u0 = u1 then Runs xs sl d 123 38 [l0, l1, l2] [] H r else Runs xs sl d 123 9 [l0, l1, l2] [] H r := q_icmp_ne (mo_123 6 rfl) rfl rfl
theorem r123_9 : Runs xs sl d 123 9 [some (.ref a0), l1, l2] [] H r ↔ Runs xs sl d 123 10 [some (.ref a0), l1, l2] [.ref a0] H r := q_aload_n (mo_123 9 rfl) rfl rfl
theorem r123_10 : Runs xs sl d 123 10 [some (.ref a0), l1, l2] [s0] H r ↔ Runs xs sl d 123 11 [some (.ref a0), l1, l2] [.ref a0, s0] H r := q_aload_n (mo_123 10 rfl) rfl rfl
theorem r123_11 : Runs xs sl d 123 11 [l0, l1, l2] [.ref b1, s0] H r ↔ ∃ v, hO H b1 6 2 = some v ∧ Runs xs sl d 123 14 [l0, l1, l2] [v, s0] H r := q_getf (mo_123 11 rfl) mow_123 rfl rfl
theorem r123_14 : Runs xs sl d 123 14 [l0, some (.int i1), l2] [s1, s0] H r ↔ Runs xs sl d 123 15 [l0, some (.int i1), l2] [.int i1, s1, s0] H r := q_iload_n (mo_123 14 rfl) rfl rfl
theorem r123_15 : Runs xs sl d 123 15 [l0, l1, l2] [s2, s1, s0] H r ↔ Runs xs sl d 123 17 [l0, l1, l2] [.int 6, s2, s1, s0] H r := q_bipush (mo_123 15 rfl) rfl rfl
theorem r123_17 : Runs xs sl d 123 17 [l0, l1, l2] [.int u3, .int u2, s1, s0] H r ↔ Runs xs sl d 123 18 [l0, l1, l2] [.int (u2 * u3), s1, s0] H r := q_imul (mo_123 17 rfl) rfl
theorem r123_18 : Runs xs sl d 123 18 [l0, l1, some (.int i2)] [s2, s1, s0] H r ↔ Runs xs sl d 123 19 [l0, l1, some (.int i2)] [.int i2, s2, s1, s0] H r := q_iload_n (mo_123 18 rfl) rfl rfl
theorem r123_19 : Runs xs sl d 123 19 [some (.ref a0), l1, l2] [s3, s2, s1, s0] H r ↔ Runs xs sl d 123 20 [some (.ref a0), l1, l2] [.ref a0, s3, s2, s1, s0] H r := q_aload_n (mo_123 19 rfl) rfl rfl
theorem r123_20 : Runs xs sl d 123 20 [l0, l1, l2] [.ref b4, s3, s2, s1, s0] H r ↔ ∃ v, hO H b4 6 0 = some v ∧ Runs xs sl d 123 23 [l0, l1, l2] [v, s3, s2, s1, s0] H r := q_getf (mo_123 20 rfl) mow_123 rfl rfl
theorem r123_23 : Runs xs sl d 123 23 [l0, l1, l2] [.ref b4, s3, s2, s1, s0] H r ↔ ∃ v, hO H b4 8 6 = some v ∧ Runs xs sl d 123 26 [l0, l1, l2] [v, s3, s2, s1, s0] H r := q_getf (mo_123 23 rfl) mow_123 rfl rfl
theorem r123_26 : Runs xs sl d 123 26 [l0, some (.int i1), l2] [s4, s3, s2, s1, s0] H r ↔ Runs xs sl d 123 27 [l0, some (.int i1), l2] [.int i1, s4, s3, s2, s1, s0] H r := q_iload_n (mo_123 26 rfl) rfl rfl
theorem r123_27 : Runs xs sl d 123 27 [l0, l1, l2] [.int u5, .ref b4, s3, s2, s1, s0] H r ↔ ∃ v, hA H b4 0 u5 = some v ∧ Runs xs sl d 123 28 [l0, l1, l2] [.int v, s3, s2, s1, s0] H r := run_iald (mo_123 27 rfl) rfl
theorem r123_28 (hc : hC H b0 = some 6) : Runs xs sl (d + 1) 123 28 [l0, l1, l2] [.int u4, .int u3, .int u2, .ref b1, .ref b0] H r ↔ ∃ v H1, Runs xs sl d 125 0 [some (.ref b0), some (.ref b1), some (.int u2), some (.int u3), some (.int u4), none, none, none, none] [] H (v, H1) ∧ Runs xs sl (d + 1) 123 31 [l0, l1, l2] (v.toList ++ []) H1 r := q_callV (M' := 125) (as := [.ref b1, .int u2, .int u3, .int u4]) (rest := []) (mo_123 28 rfl) mow_123 rfl mcs_125 mmx_125 rfl (Nat.le_of_ble_eq_true rfl) (Nat.le_of_ble_eq_true rfl) rfl rfl hc
theorem r123_31 : Runs xs sl d 123 31 [l0, l1, l2] [.int u0] H r ↔ if u0 = 0 then Runs xs sl d 123 38 [l0, l1, l2] [] H r else Runs xs sl d 123 34 [l0, l1, l2] [] H r := q_if_eq (mo_123 31 rfl) rfl rfl
theorem r123_34 : Runs xs sl d 123 34 [l0, l1, l2] [] H r ↔ Runs xs sl d 123 35 [l0, l1, l2] [.int 1] H r := q_iconst (mo_123 34 rfl) rfl rfl
theorem r123_35 : Runs xs sl d 123 35 [l0, l1, l2] [s0] H r ↔ Runs xs sl d 123 39 [l0, l1, l2] [s0] H r := q_goto (mo_123 35 rfl) rfl
theorem r123_38 : Runs xs sl d 123 38 [l0, l1, l2] [] H r ↔ Runs xs sl d 123 39 [l0, l1, l2] [.int 0] H r := q_iconst (mo_123 38 rfl) rfl rfl
theorem r123_39 (h : u0 = 0 ∨ u0 = 1) : Runs xs sl d 123 39 [l0, l1, l2] [.int u0] H r ↔ r = (some (.int u0), H) := q_zret (mo_123 39 rfl) mrt_123 h
theorem r124_0 : Runs xs sl d 124 0 [some (.ref a0), l1] [] H r ↔ Runs xs sl d 124 1 [some (.ref a0), l1] [.ref a0] H r := q_aload_n (mo_124 0 rfl) rfl rfl
theorem r124_1 : Runs xs sl d 124 1 [l0, l1] [.ref b0] H r ↔ ∃ v, hO H b0 6 7 = some v ∧ Runs xs sl d 124 4 [l0, l1] [v] H r := q_getf (mo_124 1 rfl) mow_124 rfl rfl
theorem r124_4 : Runs xs sl d 124 4 [l0, some (.int i1)] [s0] H r ↔ Runs xs sl d 124 5 [l0, some (.int i1)] [.int i1, s0] H r := q_iload_n (mo_124 4 rfl) rfl rfl
theorem r124_5 : Runs xs sl d 124 5 [l0, l1] [.int u1, .ref b0] H r ↔ ∃ v, hB H b0 u1 = some v ∧ Runs xs sl d 124 6 [l0, l1] [.int v] H r := run_bald (mo_124 5 rfl) rfl
theorem r124_6 : Runs xs sl d 124 6 [l0, l1] [.int u0] H r ↔ if u0 = 0 then Runs xs sl d 124 11 [l0, l1] [] H r else Runs xs sl d 124 9 [l0, l1] [] H r := q_if_eq (mo_124 6 rfl) rfl rfl
theorem r124_9 : Runs xs sl d 124 9 [l0, l1] [] H r ↔ Runs xs sl d 124 10 [l0, l1] [.int 3] H r := q_iconst (mo_124 9 rfl) rfl rfl
theorem r124_10 : Runs xs sl d 124 10 [l0, l1] [.int u0] H r ↔ r = (some (.int u0), H) := q_iret (mo_124 10 rfl) mrt_124
theorem r124_11 : Runs xs sl d 124 11 [some (.ref a0), l1] [] H r ↔ Runs xs sl d 124 12 [some (.ref a0), l1] [.ref a0] H r := q_aload_n (mo_124 11 rfl) rfl rfl
theorem r124_12 : Runs xs sl d 124 12 [l0, l1] [.ref b0] H r ↔ ∃ v, hO H b0 6 6 = some v ∧ Runs xs sl d 124 15 [l0, l1] [v] H r := q_getf (mo_124 12 rfl) mow_124 rfl rfl
theorem r124_15 : Runs xs sl d 124 15 [l0, some (.int i1)] [s0] H r ↔ Runs xs sl d 124 16 [l0, some (.int i1)] [.int i1, s0] H r := q_iload_n (mo_124 15 rfl) rfl rfl
theorem r124_16 : Runs xs sl d 124 16 [l0, l1] [.int u1, .ref b0] H r ↔ ∃ v, hA H b0 0 u1 = some v ∧ Runs xs sl d 124 17 [l0, l1] [.int v] H r := run_iald (mo_124 16 rfl) rfl
theorem r124_17 : Runs xs sl d 124 17 [some (.ref a0), l1] [s0] H r ↔ Runs xs sl d 124 18 [some (.ref a0), l1] [.ref a0, s0] H r := q_aload_n (mo_124 17 rfl) rfl rfl
theorem r124_18 : Runs xs sl d 124 18 [l0, l1] [.ref b1, s0] H r ↔ ∃ v, hO H b1 6 0 = some v ∧ Runs xs sl d 124 21 [l0, l1] [v, s0] H r := q_getf (mo_124 18 rfl) mow_124 rfl rfl
theorem r124_21 : Runs xs sl d 124 21 [l0, l1] [.ref b1, s0] H r ↔ ∃ v, hO H b1 8 1 = some v ∧ Runs xs sl d 124 24 [l0, l1] [v, s0] H r := q_getf (mo_124 21 rfl) mow_124 rfl rfl
theorem r124_24 : Runs xs sl d 124 24 [l0, l1] [.int u1, .int u0] H r ↔ if u0 ≤ u1 then Runs xs sl d 124 39 [l0, l1] [] H r else Runs xs sl d 124 27 [l0, l1] [] H r := q_icmp_le (mo_124 24 rfl) rfl rfl
theorem r124_27 : Runs xs sl d 124 27 [some (.ref a0), l1] [] H r ↔ Runs xs sl d 124 28 [some (.ref a0), l1] [.ref a0] H r := q_aload_n (mo_124 27 rfl) rfl rfl
theorem r124_28 : Runs xs sl d 124 28 [l0, l1] [.ref b0] H r ↔ ∃ v, hO H b0 6 5 = some v ∧ Runs xs sl d 124 31 [l0, l1] [v] H r := q_getf (mo_124 28 rfl) mow_124 rfl rfl
theorem r124_31 : Runs xs sl d 124 31 [l0, some (.int i1)] [s0] H r ↔ Runs xs sl d 124 32 [l0, some (.int i1)] [.int i1, s0] H r := q_iload_n (mo_124 31 rfl) rfl rfl
theorem r124_32 : Runs xs sl d 124 32 [l0, l1] [.int u1, .ref b0] H r ↔ ∃ v, hA H b0 0 u1 = some v ∧ Runs xs sl d 124 33 [l0, l1] [.int v] H r := run_iald (mo_124 32 rfl) rfl
theorem r124_33 : Runs xs sl d 124 33 [l0, l1] [s0] H r ↔ Runs xs sl d 124 34 [l0, l1] [.int 4, s0] H r := q_iconst (mo_124 33 rfl) rfl rfl
theorem r124_34 : Runs xs sl d 124 34 [l0, l1] [.int u1, .int u0] H r ↔ if u0 = u1 then Runs xs sl d 124 39 [l0, l1] [] H r else Runs xs sl d 124 37 [l0, l1] [] H r := q_icmp_eq (mo_124 34 rfl) rfl rfl
theorem r124_37 : Runs xs sl d 124 37 [l0, l1] [] H r ↔ Runs xs sl d 124 38 [l0, l1] [.int 2] H r := q_iconst (mo_124 37 rfl) rfl rfl
theorem r124_38 : Runs xs sl d 124 38 [l0, l1] [.int u0] H r ↔ r = (some (.int u0), H) := q_iret (mo_124 38 rfl) mrt_124
theorem r124_39 : Runs xs sl d 124 39 [some (.ref a0), l1] [] H r ↔ Runs xs sl d 124 40 [some (.ref a0), l1] [.ref a0] H r := q_aload_n (mo_124 39 rfl) rfl rfl
theorem r124_40 : Runs xs sl d 124 40 [l0, l1] [.ref b0] H r ↔ ∃ v, hO H b0 6 6 = some v ∧ Runs xs sl d 124 43 [l0, l1] [v] H r := q_getf (mo_124 40 rfl) mow_124 rfl rfl
theorem r124_43 : Runs xs sl d 124 43 [l0, some (.int i1)] [s0] H r ↔ Runs xs sl d 124 44 [l0, some (.int i1)] [.int i1, s0] H r := q_iload_n (mo_124 43 rfl) rfl rfl
theorem r124_44 : Runs xs sl d 124 44 [l0, l1] [.int u1, .ref b0] H r ↔ ∃ v, hA H b0 0 u1 = some v ∧ Runs xs sl d 124 45 [l0, l1] [.int v] H r := run_iald (mo_124 44 rfl) rfl
theorem r124_45 : Runs xs sl d 124 45 [l0, l1] [.int u0] H r ↔ if ¬ u0 = 0 then Runs xs sl d 124 52 [l0, l1] [] H r else Runs xs sl d 124 48 [l0, l1] [] H r := q_if_ne (mo_124 45 rfl) rfl rfl
theorem r124_48 : Runs xs sl d 124 48 [l0, l1] [] H r ↔ Runs xs sl d 124 49 [l0, l1] [.int 0] H r := q_iconst (mo_124 48 rfl) rfl rfl
theorem r124_49 : Runs xs sl d 124 49 [l0, l1] [s0] H r ↔ Runs xs sl d 124 53 [l0, l1] [s0] H r := q_goto (mo_124 49 rfl) rfl
theorem r124_52 : Runs xs sl d 124 52 [l0, l1] [] H r ↔ Runs xs sl d 124 53 [l0, l1] [.int 1] H r := q_iconst (mo_124 52 rfl) rfl rfl
theorem r124_53 : Runs xs sl d 124 53 [l0, l1] [.int u0] H r ↔ r = (some (.int u0), H) := q_iret (mo_124 53 rfl) mrt_124
theorem r125_0 : Runs xs sl d 125 0 [l0, l1, l2, l3, l4, l5, l6, l7, l8] [] H r ↔ Runs xs sl d 125 1 [l0, l1, l2, l3, l4, l5, l6, l7, l8] [.int 0] H r := q_iconst (mo_125 0 rfl) rfl rfl
theorem r125_1 : Runs xs sl d 125 1 [l0, l1, l2, l3, some (.int i4), l5, l6, l7, l8] [.int u0] H r ↔ Runs xs sl d 125 3 [l0, l1, l2, l3, some (.int i4), some (.int u0), l6, l7, l8] [] H r := q_istore (mo_125 1 rfl) (Nat.le_of_ble_eq_true rfl) rfl rfl
theorem r125_3 : Runs xs sl d 125 3 [l0, l1, l2, l3, l4, l5, l6, l7, l8] [] H r ↔ Runs xs sl d 125 4 [l0, l1, l2, l3, l4, l5, l6, l7, l8] [.int 1] H r := q_iconst (mo_125 3 rfl) rfl rfl
theorem r125_4 : Runs xs sl d 125 4 [l0, l1, l2, l3, l4, some (.int i5), l6, l7, l8] [.int u0] H r ↔ Runs xs sl d 125 6 [l0, l1, l2, l3, l4, some (.int i5), some (.int u0), l7, l8] [] H r := q_istore (mo_125 4 rfl) (Nat.le_of_ble_eq_true rfl) rfl rfl
theorem r125_6 : Runs xs sl d 125 6 [l0, l1, l2, l3, l4, l5, l6, l7, l8] [] H r ↔ Runs xs sl d 125 7 [l0, l1, l2, l3, l4, l5, l6, l7, l8] [.int 0] H r := q_iconst (mo_125 6 rfl) rfl rfl
theorem r125_7 : Runs xs sl d 125 7 [l0, l1, l2, l3, l4, l5, some (.int i6), l7, l8] [.int u0] H r ↔ Runs xs sl d 125 9 [l0, l1, l2, l3, l4, l5, some (.int i6), some (.int u0), l8] [] H r := q_istore (mo_125 7 rfl) (Nat.le_of_ble_eq_true rfl) rfl rfl
theorem r125_9 : Runs xs sl d 125 9 [l0, l1, l2, l3, l4, l5, l6, some (.int i7), l8] [] H r ↔ Runs xs sl d 125 11 [l0, l1, l2, l3, l4, l5, l6, some (.int i7), l8] [.int i7] H r := q_iload (mo_125 9 rfl) rfl rfl
theorem r125_11 : Runs xs sl d 125 11 [some (.ref a0), l1, l2, l3, l4, l5, l6, l7, l8] [s0] H r ↔ Runs xs sl d 125 12 [some (.ref a0), l1, l2, l3, l4, l5, l6, l7, l8] [.ref a0, s0] H r := q_aload_n (mo_125 11 rfl) rfl rfl
theorem r125_12 : Runs xs sl d 125 12 [l0, l1, l2, l3, l4, l5, l6, l7, l8] [.ref b1, s0] H r ↔ ∃ v, hO H b1 6 0 = some v ∧ Runs xs sl d 125 15 [l0, l1, l2, l3, l4, l5, l6, l7, l8] [v, s0] H r := q_getf (mo_125 12 rfl) mow_125 rfl rfl
theorem r125_15 : Runs xs sl d 125 15 [l0, l1, l2, l3, l4, l5, l6, l7, l8] [.ref b1, s0] H r ↔ ∃ v, hO H b1 8 0 = some v ∧ Runs xs sl d 125 18 [l0, l1, l2, l3, l4, l5, l6, l7, l8] [v, s0] H r := q_getf (mo_125 15 rfl) mow_125 rfl rfl
theorem r125_18 : Runs xs sl d 125 18 [l0, l1, l2, l3, l4, l5, l6, l7, l8] [.int u1, .int u0] H r ↔ if u1 ≤ u0 then Runs xs sl d 125 72 [l0, l1, l2, l3, l4, l5, l6, l7, l8] [] H r else Runs xs sl d 125 21 [l0, l1, l2, l3, l4, l5, l6, l7, l8] [] H r := q_icmp_ge (mo_125 18 rfl) rfl rfl
theorem r125_21 : Runs xs sl d 125 21 [l0, some (.ref a1), l2, l3, l4, l5, l6, l7, l8] [] H r ↔ Runs xs sl d 125 22 [l0, some (.ref a1), l2, l3, l4, l5, l6, l7, l8] [.ref a1] H r := q_aload_n (mo_125 21 rfl) rfl rfl
theorem r125_21n : Runs xs sl d 125 21 [l0, some .null, l2, l3, l4, l5, l6, l7, l8] [] H r ↔ Runs xs sl d 125 22 [l0, some .null, l2, l3, l4, l5, l6, l7, l8] [.null] H r := q_aload_nN (mo_125 21 rfl) rfl rfl
theorem r125_22 : Runs xs sl d 125 22 [l0, l1, some (.int i2), l3, l4, l5, l6, l7, l8] [s0] H r ↔ Runs xs sl d 125 23 [l0, l1, some (.int i2), l3, l4, l5, l6, l7, l8] [.int i2, s0] H r := q_iload_n (mo_125 22 rfl) rfl rfl
theorem r125_23 : Runs xs sl d 125 23 [l0, l1, l2, l3, l4, l5, l6, some (.int i7), l8] [s1, s0] H r ↔ Runs xs sl d 125 25 [l0, l1, l2, l3, l4, l5, l6, some (.int i7), l8] [.int i7, s1, s0] H r := q_iload (mo_125 23 rfl) rfl rfl
theorem r125_25 : Runs xs sl d 125 25 [l0, l1, l2, l3, l4, l5, l6, l7, l8] [.int u2, .int u1, s0] H r ↔ Runs xs sl d 125 26 [l0, l1, l2, l3, l4, l5, l6, l7, l8] [.int (u1 + u2), s0] H r := q_iadd (mo_125 25 rfl) rfl
theorem r125_26 : Runs xs sl d 125 26 [l0, l1, l2, l3, l4, l5, l6, l7, l8] [.int u1, .ref b0] H r ↔ ∃ v, hA H b0 0 u1 = some v ∧ Runs xs sl d 125 27 [l0, l1, l2, l3, l4, l5, l6, l7, l8] [.int v] H r := run_iald (mo_125 26 rfl) rfl
theorem r125_27 : Runs xs sl d 125 27 [l0, l1, l2, l3, l4, l5, l6, some (.int i7), l8] [.int u0] H r ↔ Runs xs sl d 125 29 [l0, l1, l2, l3, l4, l5, l6, some (.int i7), some (.int u0)] [] H r := q_istore (mo_125 27 rfl) (Nat.le_of_ble_eq_true rfl) rfl rfl
theorem r125_29 : Runs xs sl d 125 29 [l0, l1, l2, l3, l4, some (.int i5), l6, l7, l8] [] H r ↔ Runs xs sl d 125 31 [l0, l1, l2, l3, l4, some (.int i5), l6, l7, l8] [.int i5] H r := q_iload (mo_125 29 rfl) rfl rfl
theorem r125_31 : Runs xs sl d 125 31 [l0, l1, l2, l3, l4, l5, l6, l7, some (.int i8)] [s0] H r ↔ Runs xs sl d 125 33 [l0, l1, l2, l3, l4, l5, l6, l7, some (.int i8)] [.int i8, s0] H r := q_iload (mo_125 31 rfl) rfl rfl
theorem r125_33 : Runs xs sl d 125 33 [some (.ref a0), l1, l2, l3, l4, l5, l6, l7, l8] [s1, s0] H r ↔ Runs xs sl d 125 34 [some (.ref a0), l1, l2, l3, l4, l5, l6, l7, l8] [.ref a0, s1, s0] H r := q_aload_n (mo_125 33 rfl) rfl rfl
theorem r125_34 : Runs xs sl d 125 34 [l0, l1, l2, l3, l4, l5, l6, l7, l8] [.ref b2, s1, s0] H r ↔ ∃ v, hO H b2 6 3 = some v ∧ Runs xs sl d 125 37 [l0, l1, l2, l3, l4, l5, l6, l7, l8] [v, s1, s0] H r := q_getf (mo_125 34 rfl) mow_125 rfl rfl
theorem r125_37 : Runs xs sl d 125 37 [l0, l1, l2, some (.int i3), l4, l5, l6, l7, l8] [s2, s1, s0] H r ↔ Runs xs sl d 125 38 [l0, l1, l2, some (.int i3), l4, l5, l6, l7, l8] [.int i3, s2, s1, s0] H r := q_iload_n (mo_125 37 rfl) rfl rfl
theorem r125_38 : Runs xs sl d 125 38 [l0, l1, l2, l3, l4, l5, l6, l7, l8] [s3, s2, s1, s0] H r ↔ Runs xs sl d 125 40 [l0, l1, l2, l3, l4, l5, l6, l7, l8] [.int 6, s3, s2, s1, s0] H r := q_bipush (mo_125 38 rfl) rfl rfl
theorem r125_40 : Runs xs sl d 125 40 [l0, l1, l2, l3, l4, l5, l6, l7, l8] [.int u4, .int u3, s2, s1, s0] H r ↔ Runs xs sl d 125 41 [l0, l1, l2, l3, l4, l5, l6, l7, l8] [.int (u3 * u4), s2, s1, s0] H r := q_imul (mo_125 40 rfl) rfl
theorem r125_41 : Runs xs sl d 125 41 [l0, l1, l2, l3, l4, l5, l6, some (.int i7), l8] [s3, s2, s1, s0] H r ↔ Runs xs sl d 125 43 [l0, l1, l2, l3, l4, l5, l6, some (.int i7), l8] [.int i7, s3, s2, s1, s0] H r := q_iload (mo_125 41 rfl) rfl rfl
theorem r125_43 : Runs xs sl d 125 43 [l0, l1, l2, l3, l4, l5, l6, l7, l8] [.int u4, .int u3, s2, s1, s0] H r ↔ Runs xs sl d 125 44 [l0, l1, l2, l3, l4, l5, l6, l7, l8] [.int (u3 + u4), s2, s1, s0] H r := q_iadd (mo_125 43 rfl) rfl
theorem r125_44 : Runs xs sl d 125 44 [l0, l1, l2, l3, l4, l5, l6, l7, l8] [.int u3, .ref b2, s1, s0] H r ↔ ∃ v, hA H b2 0 u3 = some v ∧ Runs xs sl d 125 45 [l0, l1, l2, l3, l4, l5, l6, l7, l8] [.int v, s1, s0] H r := run_iald (mo_125 44 rfl) rfl
theorem r125_45 : Runs xs sl d 125 45 [l0, l1, l2, l3, l4, l5, l6, l7, l8] [.int u2, .int u1, s0] H r ↔ Runs xs sl d 125 46 [l0, l1, l2, l3, l4, l5, l6, l7, l8] [.int (u1 * u2), s0] H r := q_imul (mo_125 45 rfl) rfl
theorem r125_46 : Runs xs sl d 125 46 [l0, l1, l2, l3, l4, l5, l6, l7, l8] [.int u1, .int u0] H r ↔ Runs xs sl d 125 47 [l0, l1, l2, l3, l4, l5, l6, l7, l8] [.int (u0 + u1)] H r := q_iadd (mo_125 46 rfl) rfl
theorem r125_47 : Runs xs sl d 125 47 [l0, l1, l2, l3, some (.int i4), l5, l6, l7, l8] [.int u0] H r ↔ Runs xs sl d 125 49 [l0, l1, l2, l3, some (.int i4), some (.int u0), l6, l7, l8] [] H r := q_istore (mo_125 47 rfl) (Nat.le_of_ble_eq_true rfl) rfl rfl
theorem r125_49 : Runs xs sl d 125 49 [l0, l1, l2, l3, l4, l5, some (.int i6), l7, l8] [] H r ↔ Runs xs sl d 125 51 [l0, l1, l2, l3, l4, l5, some (.int i6), l7, l8] [.int i6] H r := q_iload (mo_125 49 rfl) rfl rfl
theorem r125_51 : Runs xs sl d 125 51 [l0, l1, l2, l3, l4, l5, l6, l7, l8] [.int u0] H r ↔ if u0 = 0 then Runs xs sl d 125 63 [l0, l1, l2, l3, l4, l5, l6, l7, l8] [] H r else Runs xs sl d 125 54 [l0, l1, l2, l3, l4, l5, l6, l7, l8] [] H r := q_if_eq (mo_125 51 rfl) rfl rfl
theorem r125_54 : Runs xs sl d 125 54 [l0, l1, l2, l3, l4, l5, l6, l7, some (.int i8)] [] H r ↔ Runs xs sl d 125 56 [l0, l1, l2, l3, l4, l5, l6, l7, some (.int i8)] [.int i8] H r := q_iload (mo_125 54 rfl) rfl rfl
theorem r125_56 : Runs xs sl d 125 56 [l0, l1, l2, l3, l4, l5, l6, l7, l8] [.int u0] H r ↔ if ¬ u0 = 0 then Runs xs sl d 125 63 [l0, l1, l2, l3, l4, l5, l6, l7, l8] [] H r else Runs xs sl d 125 59 [l0, l1, l2, l3, l4, l5, l6, l7, l8] [] H r := q_if_ne (mo_125 56 rfl) rfl rfl
theorem r125_59 : Runs xs sl d 125 59 [l0, l1, l2, l3, l4, l5, l6, l7, l8] [] H r ↔ Runs xs sl d 125 60 [l0, l1, l2, l3, l4, l5, l6, l7, l8] [.int 1] H r := q_iconst (mo_125 59 rfl) rfl rfl
theorem r125_60 : Runs xs sl d 125 60 [l0, l1, l2, l3, l4, l5, l6, l7, l8] [s0] H r ↔ Runs xs sl d 125 64 [l0, l1, l2, l3, l4, l5, l6, l7, l8] [s0] H r := q_goto (mo_125 60 rfl) rfl
theorem r125_63 : Runs xs sl d 125 63 [l0, l1, l2, l3, l4, l5, l6, l7, l8] [] H r ↔ Runs xs sl d 125 64 [l0, l1, l2, l3, l4, l5, l6, l7, l8] [.int 0] H r := q_iconst (mo_125 63 rfl) rfl rfl
theorem r125_64 : Runs xs sl d 125 64 [l0, l1, l2, l3, l4, some (.int i5), l6, l7, l8] [.int u0] H r ↔ Runs xs sl d 125 66 [l0, l1, l2, l3, l4, some (.int i5), some (.int u0), l7, l8] [] H r := q_istore (mo_125 64 rfl) (Nat.le_of_ble_eq_true rfl) rfl rfl
theorem r125_66 : Runs xs sl d 125 66 [l0, l1, l2, l3, l4, l5, some (.int i6), some (.int i7), l8] [] H r ↔ Runs xs sl d 125 69 [l0, l1, l2, l3, l4, l5, some (.int i6), some (.int (i7 + 1)), l8] [] H r := q_iinc (mo_125 66 rfl) rfl (Nat.le_of_ble_eq_true rfl) rfl rfl
theorem r125_69 : Runs xs sl d 125 69 [l0, l1, l2, l3, l4, l5, l6, l7, l8] [] H r ↔ Runs xs sl d 125 9 [l0, l1, l2, l3, l4, l5, l6, l7, l8] [] H r := q_goto (mo_125 69 rfl) rfl
theorem r125_72 : Runs xs sl d 125 72 [l0, l1, l2, l3, l4, l5, some (.int i6), l7, l8] [] H r ↔ Runs xs sl d 125 74 [l0, l1, l2, l3, l4, l5, some (.int i6), l7, l8] [.int i6] H r := q_iload (mo_125 72 rfl) rfl rfl
theorem r125_74 : Runs xs sl d 125 74 [l0, l1, l2, l3, l4, l5, l6, l7, l8] [.int u0] H r ↔ if ¬ u0 = 0 then Runs xs sl d 125 84 [l0, l1, l2, l3, l4, l5, l6, l7, l8] [] H r else Runs xs sl d 125 77 [l0, l1, l2, l3, l4, l5, l6, l7, l8] [] H r := q_if_ne (mo_125 74 rfl) rfl rfl
theorem r125_77 : Runs xs sl d 125 77 [l0, l1, l2, l3, l4, some (.int i5), l6, l7, l8] [] H r ↔ Runs xs sl d 125 79 [l0, l1, l2, l3, l4, some (.int i5), l6, l7, l8] [.int i5] H r := q_iload (mo_125 77 rfl) rfl rfl
theorem r125_79 : Runs xs sl d 125 79 [l0, l1, l2, l3, some (.int i4), l5, l6, l7, l8] [s0] H r ↔ Runs xs sl d 125 81 [l0, l1, l2, l3, some (.int i4), l5, l6, l7, l8] [.int i4, s0] H r := q_iload (mo_125 79 rfl) rfl rfl
theorem r125_81 : Runs xs sl d 125 81 [l0, l1, l2, l3, l4, l5, l6, l7, l8] [.int u1, .int u0] H r ↔ if u0 < u1 then Runs xs sl d 125 88 [l0, l1, l2, l3, l4, l5, l6, l7, l8] [] H r else Runs xs sl d 125 84 [l0, l1, l2, l3, l4, l5, l6, l7, l8] [] H r := q_icmp_lt (mo_125 81 rfl) rfl rfl
theorem r125_84 : Runs xs sl d 125 84 [l0, l1, l2, l3, l4, l5, l6, l7, l8] [] H r ↔ Runs xs sl d 125 85 [l0, l1, l2, l3, l4, l5, l6, l7, l8] [.int 1] H r := q_iconst (mo_125 84 rfl) rfl rfl
theorem r125_85 : Runs xs sl d 125 85 [l0, l1, l2, l3, l4, l5, l6, l7, l8] [s0] H r ↔ Runs xs sl d 125 89 [l0, l1, l2, l3, l4, l5, l6, l7, l8] [s0] H r := q_goto (mo_125 85 rfl) rfl
theorem r125_88 : Runs xs sl d 125 88 [l0, l1, l2, l3, l4, l5, l6, l7, l8] [] H r ↔ Runs xs sl d 125 89 [l0, l1, l2, l3, l4, l5, l6, l7, l8] [.int 0] H r := q_iconst (mo_125 88 rfl) rfl rfl
theorem r125_89 (h : u0 = 0 ∨ u0 = 1) : Runs xs sl d 125 89 [l0, l1, l2, l3, l4, l5, l6, l7, l8] [.int u0] H r ↔ r = (some (.int u0), H) := q_zret (mo_125 89 rfl) mrt_125 h
theorem r126_0 : Runs xs sl d 126 0 [l0, l1, l2, l3, l4, l5, l6, l7, l8] [] H r ↔ Runs xs sl d 126 1 [l0, l1, l2, l3, l4, l5, l6, l7, l8] [.int 0] H r := q_iconst (mo_126 0 rfl) rfl rfl
theorem r126_1 : Runs xs sl d 126 1 [l0, l1, l2, l3, some (.int i4), l5, l6, l7, l8] [.int u0] H r ↔ Runs xs sl d 126 3 [l0, l1, l2, l3, some (.int i4), some (.int u0), l6, l7, l8] [] H r := q_istore (mo_126 1 rfl) (Nat.le_of_ble_eq_true rfl) rfl rfl
theorem r126_3 : Runs xs sl d 126 3 [l0, l1, l2, l3, l4, l5, l6, l7, l8] [] H r ↔ Runs xs sl d 126 4 [l0, l1, l2, l3, l4, l5, l6, l7, l8] [.int 0] H r := q_iconst (mo_126 3 rfl) rfl rfl
theorem r126_4 : Runs xs sl d 126 4 [l0, l1, l2, l3, l4, some (.int i5), l6, l7, l8] [.int u0] H r ↔ Runs xs sl d 126 6 [l0, l1, l2, l3, l4, some (.int i5), some (.int u0), l7, l8] [] H r := q_istore (mo_126 4 rfl) (Nat.le_of_ble_eq_true rfl) rfl rfl
theorem r126_6 : Runs xs sl d 126 6 [l0, l1, l2, l3, l4, l5, some (.int i6), l7, l8] [] H r ↔ Runs xs sl d 126 8 [l0, l1, l2, l3, l4, l5, some (.int i6), l7, l8] [.int i6] H r := q_iload (mo_126 6 rfl) rfl rfl
theorem r126_8 : Runs xs sl d 126 8 [some (.ref a0), l1, l2, l3, l4, l5, l6, l7, l8] [s0] H r ↔ Runs xs sl d 126 9 [some (.ref a0), l1, l2, l3, l4, l5, l6, l7, l8] [.ref a0, s0] H r := q_aload_n (mo_126 8 rfl) rfl rfl
theorem r126_9 : Runs xs sl d 126 9 [l0, l1, l2, l3, l4, l5, l6, l7, l8] [.ref b1, s0] H r ↔ ∃ v, hO H b1 6 0 = some v ∧ Runs xs sl d 126 12 [l0, l1, l2, l3, l4, l5, l6, l7, l8] [v, s0] H r := q_getf (mo_126 9 rfl) mow_126 rfl rfl
theorem r126_12 : Runs xs sl d 126 12 [l0, l1, l2, l3, l4, l5, l6, l7, l8] [.ref b1, s0] H r ↔ ∃ v, hO H b1 8 0 = some v ∧ Runs xs sl d 126 15 [l0, l1, l2, l3, l4, l5, l6, l7, l8] [v, s0] H r := q_getf (mo_126 12 rfl) mow_126 rfl rfl
theorem r126_15 : Runs xs sl d 126 15 [l0, l1, l2, l3, l4, l5, l6, l7, l8] [.int u1, .int u0] H r ↔ if u1 ≤ u0 then Runs xs sl d 126 84 [l0, l1, l2, l3, l4, l5, l6, l7, l8] [] H r else Runs xs sl d 126 18 [l0, l1, l2, l3, l4, l5, l6, l7, l8] [] H r := q_icmp_ge (mo_126 15 rfl) rfl rfl
theorem r126_18 : Runs xs sl d 126 18 [some (.ref a0), l1, l2, l3, l4, l5, l6, l7, l8] [] H r ↔ Runs xs sl d 126 19 [some (.ref a0), l1, l2, l3, l4, l5, l6, l7, l8] [.ref a0] H r := q_aload_n (mo_126 18 rfl) rfl rfl
theorem r126_19 : Runs xs sl d 126 19 [l0, l1, l2, l3, l4, l5, l6, l7, l8] [.ref b0] H r ↔ ∃ v, hO H b0 6 3 = some v ∧ Runs xs sl d 126 22 [l0, l1, l2, l3, l4, l5, l6, l7, l8] [v] H r := q_getf (mo_126 19 rfl) mow_126 rfl rfl
theorem r126_22 : Runs xs sl d 126 22 [l0, l1, l2, some (.int i3), l4, l5, l6, l7, l8] [s0] H r ↔ Runs xs sl d 126 23 [l0, l1, l2, some (.int i3), l4, l5, l6, l7, l8] [.int i3, s0] H r := q_iload_n (mo_126 22 rfl) rfl rfl
theorem r126_23 : Runs xs sl d 126 23 [l0, l1, l2, l3, l4, l5, l6, l7, l8] [s1, s0] H r ↔ Runs xs sl d 126 25 [l0, l1, l2, l3, l4, l5, l6, l7, l8] [.int 6, s1, s0] H r := q_bipush (mo_126 23 rfl) rfl rfl
theorem r126_25 : Runs xs sl d 126 25 [l0, l1, l2, l3, l4, l5, l6, l7, l8] [.int u2, .int u1, s0] H r ↔ Runs xs sl d 126 26 [l0, l1, l2, l3, l4, l5, l6, l7, l8] [.int (u1 * u2), s0] H r := q_imul (mo_126 25 rfl) rfl
theorem r126_26 : Runs xs sl d 126 26 [l0, l1, l2, l3, l4, l5, some (.int i6), l7, l8] [s1, s0] H r ↔ Runs xs sl d 126 28 [l0, l1, l2, l3, l4, l5, some (.int i6), l7, l8] [.int i6, s1, s0] H r := q_iload (mo_126 26 rfl) rfl rfl
theorem r126_28 : Runs xs sl d 126 28 [l0, l1, l2, l3, l4, l5, l6, l7, l8] [.int u2, .int u1, s0] H r ↔ Runs xs sl d 126 29 [l0, l1, l2, l3, l4, l5, l6, l7, l8] [.int (u1 + u2), s0] H r := q_iadd (mo_126 28 rfl) rfl
theorem r126_29 : Runs xs sl d 126 29 [l0, l1, l2, l3, l4, l5, l6, l7, l8] [.int u1, .ref b0] H r ↔ ∃ v, hA H b0 0 u1 = some v ∧ Runs xs sl d 126 30 [l0, l1, l2, l3, l4, l5, l6, l7, l8] [.int v] H r := run_iald (mo_126 29 rfl) rfl
theorem r126_30 : Runs xs sl d 126 30 [l0, l1, l2, l3, l4, l5, some (.int i6), l7, l8] [.int u0] H r ↔ Runs xs sl d 126 32 [l0, l1, l2, l3, l4, l5, some (.int i6), some (.int u0), l8] [] H r := q_istore (mo_126 30 rfl) (Nat.le_of_ble_eq_true rfl) rfl rfl
theorem r126_32 : Runs xs sl d 126 32 [l0, l1, l2, l3, l4, l5, l6, some (.int i7), l8] [] H r ↔ Runs xs sl d 126 34 [l0, l1, l2, l3, l4, l5, l6, some (.int i7), l8] [.int i7] H r := q_iload (mo_126 32 rfl) rfl rfl
theorem r126_34 : Runs xs sl d 126 34 [l0, some (.ref a1), l2, l3, l4, l5, l6, l7, l8] [s0] H r ↔ Runs xs sl d 126 35 [l0, some (.ref a1), l2, l3, l4, l5, l6, l7, l8] [.ref a1, s0] H r := q_aload_n (mo_126 34 rfl) rfl rfl
theorem r126_34n : Runs xs sl d 126 34 [l0, some .null, l2, l3, l4, l5, l6, l7, l8] [s0] H r ↔ Runs xs sl d 126 35 [l0, some .null, l2, l3, l4, l5, l6, l7, l8] [.null, s0] H r := q_aload_nN (mo_126 34 rfl) rfl rfl
theorem r126_35 : Runs xs sl d 126 35 [l0, l1, some (.int i2), l3, l4, l5, l6, l7, l8] [s1, s0] H r ↔ Runs xs sl d 126 36 [l0, l1, some (.int i2), l3, l4, l5, l6, l7, l8] [.int i2, s1, s0] H r := q_iload_n (mo_126 35 rfl) rfl rfl
theorem r126_36 : Runs xs sl d 126 36 [l0, l1, l2, l3, l4, l5, some (.int i6), l7, l8] [s2, s1, s0] H r ↔ Runs xs sl d 126 38 [l0, l1, l2, l3, l4, l5, some (.int i6), l7, l8] [.int i6, s2, s1, s0] H r := q_iload (mo_126 36 rfl) rfl rfl
theorem r126_38 : Runs xs sl d 126 38 [l0, l1, l2, l3, l4, l5, l6, l7, l8] [.int u3, .int u2, s1, s0] H r ↔ Runs xs sl d 126 39 [l0, l1, l2, l3, l4, l5, l6, l7, l8] [.int (u2 + u3), s1, s0] H r := q_iadd (mo_126 38 rfl) rfl
theorem r126_39 : Runs xs sl d 126 39 [l0, l1, l2, l3, l4, l5, l6, l7, l8] [.int u2, .ref b1, s0] H r ↔ ∃ v, hA H b1 0 u2 = some v ∧ Runs xs sl d 126 40 [l0, l1, l2, l3, l4, l5, l6, l7, l8] [.int v, s0] H r := run_iald (mo_126 39 rfl) rfl
theorem r126_40 : Runs xs sl d 126 40 [l0, l1, l2, l3, l4, l5, l6, l7, l8] [.int u1, .int u0] H r ↔ Runs xs sl d 126 41 [l0, l1, l2, l3, l4, l5, l6, l7, l8] [.int (u0 - u1)] H r := q_isub (mo_126 40 rfl) rfl
theorem r126_41 : Runs xs sl d 126 41 [l0, l1, l2, l3, l4, l5, l6, some (.int i7), l8] [.int u0] H r ↔ Runs xs sl d 126 43 [l0, l1, l2, l3, l4, l5, l6, some (.int i7), some (.int u0)] [] H r := q_istore (mo_126 41 rfl) (Nat.le_of_ble_eq_true rfl) rfl rfl
theorem r126_43 : Runs xs sl d 126 43 [l0, l1, l2, l3, l4, l5, l6, some (.int i7), l8] [] H r ↔ Runs xs sl d 126 45 [l0, l1, l2, l3, l4, l5, l6, some (.int i7), l8] [.int i7] H r := q_iload (mo_126 43 rfl) rfl rfl
theorem r126_45 : Runs xs sl d 126 45 [l0, l1, l2, l3, l4, l5, l6, l7, l8] [.int u0] H r ↔ if u0 = 0 then Runs xs sl d 126 78 [l0, l1, l2, l3, l4, l5, l6, l7, l8] [] H r else Runs xs sl d 126 48 [l0, l1, l2, l3, l4, l5, l6, l7, l8] [] H r := q_if_eq (mo_126 45 rfl) rfl rfl
theorem r126_48 : Runs xs sl d 126 48 [l0, l1, l2, l3, l4, l5, l6, l7, some (.int i8)] [] H r ↔ Runs xs sl d 126 50 [l0, l1, l2, l3, l4, l5, l6, l7, some (.int i8)] [.int i8] H r := q_iload (mo_126 48 rfl) rfl rfl
theorem r126_50 : Runs xs sl d 126 50 [l0, l1, l2, l3, l4, l5, l6, l7, l8] [.int u0] H r ↔ if u0 = 0 then Runs xs sl d 126 78 [l0, l1, l2, l3, l4, l5, l6, l7, l8] [] H r else Runs xs sl d 126 53 [l0, l1, l2, l3, l4, l5, l6, l7, l8] [] H r := q_if_eq (mo_126 50 rfl) rfl rfl
theorem r126_53 : Runs xs sl d 126 53 [l0, some (.ref a1), l2, l3, l4, l5, l6, l7, l8] [] H r ↔ Runs xs sl d 126 54 [l0, some (.ref a1), l2, l3, l4, l5, l6, l7, l8] [.ref a1] H r := q_aload_n (mo_126 53 rfl) rfl rfl
theorem r126_53n : Runs xs sl d 126 53 [l0, some .null, l2, l3, l4, l5, l6, l7, l8] [] H r ↔ Runs xs sl d 126 54 [l0, some .null, l2, l3, l4, l5, l6, l7, l8] [.null] H r := q_aload_nN (mo_126 53 rfl) rfl rfl
theorem r126_54 : Runs xs sl d 126 54 [l0, l1, some (.int i2), l3, l4, l5, l6, l7, l8] [s0] H r ↔ Runs xs sl d 126 55 [l0, l1, some (.int i2), l3, l4, l5, l6, l7, l8] [.int i2, s0] H r := q_iload_n (mo_126 54 rfl) rfl rfl
theorem r126_55 : Runs xs sl d 126 55 [l0, l1, l2, l3, l4, l5, some (.int i6), l7, l8] [s1, s0] H r ↔ Runs xs sl d 126 57 [l0, l1, l2, l3, l4, l5, some (.int i6), l7, l8] [.int i6, s1, s0] H r := q_iload (mo_126 55 rfl) rfl rfl
theorem r126_57 : Runs xs sl d 126 57 [l0, l1, l2, l3, l4, l5, l6, l7, l8] [.int u2, .int u1, s0] H r ↔ Runs xs sl d 126 58 [l0, l1, l2, l3, l4, l5, l6, l7, l8] [.int (u1 + u2), s0] H r := q_iadd (mo_126 57 rfl) rfl
theorem r126_58 : Runs xs sl d 126 58 [l0, l1, l2, l3, l4, l5, l6, l7, l8] [.int u1, .ref b0] H r ↔ Runs xs sl d 126 59 [l0, l1, l2, l3, l4, l5, l6, l7, l8] [.int u1, .ref b0, .int u1, .ref b0] H r := q_dup2 (mo_126 58 rfl) rfl rfl rfl
theorem r126_59 : Runs xs sl d 126 59 [l0, l1, l2, l3, l4, l5, l6, l7, l8] [.int u3, .ref b2, s1, s0] H r ↔ ∃ v, hA H b2 0 u3 = some v ∧ Runs xs sl d 126 60 [l0, l1, l2, l3, l4, l5, l6, l7, l8] [.int v, s1, s0] H r := run_iald (mo_126 59 rfl) rfl
theorem r126_60 : Runs xs sl d 126 60 [l0, l1, l2, l3, some (.int i4), l5, l6, l7, l8] [s2, s1, s0] H r ↔ Runs xs sl d 126 62 [l0, l1, l2, l3, some (.int i4), l5, l6, l7, l8] [.int i4, s2, s1, s0] H r := q_iload (mo_126 60 rfl) rfl rfl
theorem r126_62 : Runs xs sl d 126 62 [l0, l1, l2, l3, l4, l5, l6, l7, l8] [.int u3, s2, s1, s0] H r ↔ Runs xs sl d 126 63 [l0, l1, l2, l3, l4, l5, l6, l7, l8] [.int (-u3), s2, s1, s0] H r := q_ineg (mo_126 62 rfl) rfl
theorem r126_63 : Runs xs sl d 126 63 [l0, l1, l2, l3, some (.int i4), l5, l6, l7, l8] [s3, s2, s1, s0] H r ↔ Runs xs sl d 126 65 [l0, l1, l2, l3, some (.int i4), l5, l6, l7, l8] [.int i4, s3, s2, s1, s0] H r := q_iload (mo_126 63 rfl) rfl rfl
theorem r126_65 : Runs xs sl d 126 65 [l0, l1, l2, l3, l4, l5, l6, l7, some (.int i8)] [s4, s3, s2, s1, s0] H r ↔ Runs xs sl d 126 67 [l0, l1, l2, l3, l4, l5, l6, l7, some (.int i8)] [.int i8, s4, s3, s2, s1, s0] H r := q_iload (mo_126 65 rfl) rfl rfl
theorem r126_67 : Runs xs sl (d + 1) 126 67 [l0, l1, l2, l3, l4, l5, l6, l7, l8] [.int u5, .int u4, .int u3, .int u2, .int u1, .ref b0] H r ↔ Runs xs sl (d + 1) 126 70 [l0, l1, l2, l3, l4, l5, l6, l7, l8] [.int (if u5 < u4 then u5 else u4), .int u3, .int u2, .int u1, .ref b0] H r := q_mmin (mo_126 67 rfl) mow_126 rfl (Nat.le_of_ble_eq_true rfl) rfl
theorem r126_70 : Runs xs sl (d + 1) 126 70 [l0, l1, l2, l3, l4, l5, l6, l7, l8] [.int u4, .int u3, .int u2, .int u1, .ref b0] H r ↔ Runs xs sl (d + 1) 126 73 [l0, l1, l2, l3, l4, l5, l6, l7, l8] [.int (if u3 < u4 then u4 else u3), .int u2, .int u1, .ref b0] H r := q_mmax (mo_126 70 rfl) mow_126 rfl (Nat.le_of_ble_eq_true rfl) rfl
theorem r126_73 : Runs xs sl d 126 73 [l0, l1, l2, l3, l4, l5, l6, l7, l8] [.int u3, .int u2, s1, s0] H r ↔ Runs xs sl d 126 74 [l0, l1, l2, l3, l4, l5, l6, l7, l8] [.int (u2 + u3), s1, s0] H r := q_iadd (mo_126 73 rfl) rfl
theorem r126_74 : Runs xs sl d 126 74 [l0, l1, l2, l3, l4, l5, l6, l7, l8] [.int u2, .int u1, .ref b0] H r ↔ ∃ H1, hAw H b0 0 u1 u2 = some H1 ∧ Runs xs sl d 126 75 [l0, l1, l2, l3, l4, l5, l6, l7, l8] [] H1 r := run_iast (mo_126 74 rfl) rfl
theorem r126_75 : Runs xs sl d 126 75 [l0, l1, l2, l3, l4, l5, l6, l7, l8] [] H r ↔ Runs xs sl d 126 76 [l0, l1, l2, l3, l4, l5, l6, l7, l8] [.int 1] H r := q_iconst (mo_126 75 rfl) rfl rfl
theorem r126_76 : Runs xs sl d 126 76 [l0, l1, l2, l3, some (.int i4), l5, l6, l7, l8] [.int u0] H r ↔ Runs xs sl d 126 78 [l0, l1, l2, l3, some (.int i4), some (.int u0), l6, l7, l8] [] H r := q_istore (mo_126 76 rfl) (Nat.le_of_ble_eq_true rfl) rfl rfl
theorem r126_78 : Runs xs sl d 126 78 [l0, l1, l2, l3, l4, some (.int i5), some (.int i6), l7, l8] [] H r ↔ Runs xs sl d 126 81 [l0, l1, l2, l3, l4, some (.int i5), some (.int (i6 + 1)), l7, l8] [] H r := q_iinc (mo_126 78 rfl) rfl (Nat.le_of_ble_eq_true rfl) rfl rfl
theorem r126_81 : Runs xs sl d 126 81 [l0, l1, l2, l3, l4, l5, l6, l7, l8] [] H r ↔ Runs xs sl d 126 6 [l0, l1, l2, l3, l4, l5, l6, l7, l8] [] H r := q_goto (mo_126 81 rfl) rfl
theorem r126_84 : Runs xs sl d 126 84 [l0, l1, l2, l3, l4, some (.int i5), l6, l7, l8] [] H r ↔ Runs xs sl d 126 86 [l0, l1, l2, l3, l4, some (.int i5), l6, l7, l8] [.int i5] H r := q_iload (mo_126 84 rfl) rfl rfl
theorem r126_86 (h : u0 = 0 ∨ u0 = 1) : Runs xs sl d 126 86 [l0, l1, l2, l3, l4, l5, l6, l7, l8] [.int u0] H r ↔ r = (some (.int u0), H) := q_zret (mo_126 86 rfl) mrt_126 h
theorem r127_0 : Runs xs sl d 127 0 [some (.ref a0), l1, l2, l3, l4] [] H r ↔ Runs xs sl d 127 1 [some (.ref a0), l1, l2, l3, l4] [.ref a0] H r := q_aload_n (mo_127 0 rfl) rfl rfl
theorem r127_1 : Runs xs sl d 127 1 [l0, l1, l2, l3, l4] [.ref b0] H r ↔ ∃ v, hO H b0 6 0 = some v ∧ Runs xs sl d 127 4 [l0, l1, l2, l3, l4] [v] H r := q_getf (mo_127 1 rfl) mow_127 rfl rfl
theorem r127_4 : Runs xs sl d 127 4 [l0, some (.int i1), l2, l3, l4] [s0] H r ↔ Runs xs sl d 127 5 [l0, some (.int i1), l2, l3, l4] [.int i1, s0] H r := q_iload_n (mo_127 4 rfl) rfl rfl
theorem r127_5 (hc : hC H b0 = some 8) : Runs xs sl (d + 1) 127 5 [l0, l1, l2, l3, l4] [.int u1, .ref b0] H r ↔ ∃ v H1, Runs xs sl d 153 0 [some (.ref b0), some (.int u1)] [] H (v, H1) ∧ Runs xs sl (d + 1) 127 8 [l0, l1, l2, l3, l4] (v.toList ++ []) H1 r := q_callV (M' := 153) (as := [.int u1]) (rest := []) (mo_127 5 rfl) mow_127 rfl mcs_153 mmx_153 rfl (Nat.le_of_ble_eq_true rfl) (Nat.le_of_ble_eq_true rfl) rfl rfl hc
theorem r127_8 : Runs xs sl d 127 8 [l0, l1, l2, l3, l4] [.int u0] H r ↔ if ¬ u0 = 0 then Runs xs sl d 127 13 [l0, l1, l2, l3, l4] [] H r else Runs xs sl d 127 11 [l0, l1, l2, l3, l4] [] H r := q_if_ne (mo_127 8 rfl) rfl rfl
theorem r127_11 : Runs xs sl d 127 11 [l0, l1, l2, l3, l4] [] H r ↔ Runs xs sl d 127 12 [l0, l1, l2, l3, l4] [.int 0] H r := q_iconst (mo_127 11 rfl) rfl rfl
theorem r127_12 (h : u0 = 0 ∨ u0 = 1) : Runs xs sl d 127 12 [l0, l1, l2, l3, l4] [.int u0] H r ↔ r = (some (.int u0), H) := q_zret (mo_127 12 rfl) mrt_127 h
theorem r127_13 : Runs xs sl d 127 13 [l0, l1, l2, l3, l4] [] H r ↔ Runs xs sl d 127 14 [l0, l1, l2, l3, l4] [.int 0] H r := q_iconst (mo_127 13 rfl) rfl rfl
theorem r127_14 : Runs xs sl d 127 14 [l0, l1, some (.int i2), l3, l4] [.int u0] H r ↔ Runs xs sl d 127 15 [l0, l1, some (.int i2), some (.int u0), l4] [] H r := q_istore_n (mo_127 14 rfl) (Nat.le_of_ble_eq_true rfl) rfl rfl
theorem r127_15 : Runs xs sl d 127 15 [l0, l1, l2, some (.int i3), l4] [] H r ↔ Runs xs sl d 127 16 [l0, l1, l2, some (.int i3), l4] [.int i3] H r := q_iload_n (mo_127 15 rfl) rfl rfl
theorem r127_16 : Runs xs sl d 127 16 [some (.ref a0), l1, l2, l3, l4] [s0] H r ↔ Runs xs sl d 127 17 [some (.ref a0), l1, l2, l3, l4] [.ref a0, s0] H r := q_aload_n (mo_127 16 rfl) rfl rfl
theorem r127_17 : Runs xs sl d 127 17 [l0, l1, l2, l3, l4] [.ref b1, s0] H r ↔ ∃ v, hO H b1 6 0 = some v ∧ Runs xs sl d 127 20 [l0, l1, l2, l3, l4] [v, s0] H r := q_getf (mo_127 17 rfl) mow_127 rfl rfl
theorem r127_20 : Runs xs sl d 127 20 [l0, l1, l2, l3, l4] [.ref b1, s0] H r ↔ ∃ v, hO H b1 8 0 = some v ∧ Runs xs sl d 127 23 [l0, l1, l2, l3, l4] [v, s0] H r := q_getf (mo_127 20 rfl) mow_127 rfl rfl
theorem r127_23 : Runs xs sl d 127 23 [l0, l1, l2, l3, l4] [.int u1, .int u0] H r ↔ if u1 ≤ u0 then Runs xs sl d 127 59 [l0, l1, l2, l3, l4] [] H r else Runs xs sl d 127 26 [l0, l1, l2, l3, l4] [] H r := q_icmp_ge (mo_127 23 rfl) rfl rfl
theorem r127_26 : Runs xs sl d 127 26 [some (.ref a0), l1, l2, l3, l4] [] H r ↔ Runs xs sl d 127 27 [some (.ref a0), l1, l2, l3, l4] [.ref a0] H r := q_aload_n (mo_127 26 rfl) rfl rfl
theorem r127_27 : Runs xs sl d 127 27 [l0, l1, l2, l3, l4] [.ref b0] H r ↔ ∃ v, hO H b0 6 2 = some v ∧ Runs xs sl d 127 30 [l0, l1, l2, l3, l4] [v] H r := q_getf (mo_127 27 rfl) mow_127 rfl rfl
theorem r127_30 : Runs xs sl d 127 30 [l0, some (.int i1), l2, l3, l4] [s0] H r ↔ Runs xs sl d 127 31 [l0, some (.int i1), l2, l3, l4] [.int i1, s0] H r := q_iload_n (mo_127 30 rfl) rfl rfl
theorem r127_31 : Runs xs sl d 127 31 [l0, l1, l2, l3, l4] [s1, s0] H r ↔ Runs xs sl d 127 33 [l0, l1, l2, l3, l4] [.int 6, s1, s0] H r := q_bipush (mo_127 31 rfl) rfl rfl
theorem r127_33 : Runs xs sl d 127 33 [l0, l1, l2, l3, l4] [.int u2, .int u1, s0] H r ↔ Runs xs sl d 127 34 [l0, l1, l2, l3, l4] [.int (u1 * u2), s0] H r := q_imul (mo_127 33 rfl) rfl
theorem r127_34 : Runs xs sl d 127 34 [l0, l1, l2, some (.int i3), l4] [s1, s0] H r ↔ Runs xs sl d 127 35 [l0, l1, l2, some (.int i3), l4] [.int i3, s1, s0] H r := q_iload_n (mo_127 34 rfl) rfl rfl
theorem r127_35 : Runs xs sl d 127 35 [l0, l1, l2, l3, l4] [.int u2, .int u1, s0] H r ↔ Runs xs sl d 127 36 [l0, l1, l2, l3, l4] [.int (u1 + u2), s0] H r := q_iadd (mo_127 35 rfl) rfl
theorem r127_36 : Runs xs sl d 127 36 [l0, l1, l2, l3, l4] [.int u1, .ref b0] H r ↔ ∃ v, hA H b0 0 u1 = some v ∧ Runs xs sl d 127 37 [l0, l1, l2, l3, l4] [.int v] H r := run_iald (mo_127 36 rfl) rfl
theorem r127_37 : Runs xs sl d 127 37 [l0, l1, l2, some (.int i3), l4] [.int u0] H r ↔ Runs xs sl d 127 39 [l0, l1, l2, some (.int i3), some (.int u0)] [] H r := q_istore (mo_127 37 rfl) (Nat.le_of_ble_eq_true rfl) rfl rfl
theorem r127_39 : Runs xs sl d 127 39 [l0, l1, l2, l3, some (.int i4)] [] H r ↔ Runs xs sl d 127 41 [l0, l1, l2, l3, some (.int i4)] [.int i4] H r := q_iload (mo_127 39 rfl) rfl rfl
theorem r127_41 : Runs xs sl d 127 41 [l0, l1, l2, l3, l4] [.int u0] H r ↔ if u0 = 0 then Runs xs sl d 127 53 [l0, l1, l2, l3, l4] [] H r else Runs xs sl d 127 44 [l0, l1, l2, l3, l4] [] H r := q_if_eq (mo_127 41 rfl) rfl rfl
theorem r127_44 : Runs xs sl d 127 44 [some (.ref a0), l1, l2, l3, l4] [] H r ↔ Runs xs sl d 127 45 [some (.ref a0), l1, l2, l3, l4] [.ref a0] H r := q_aload_n (mo_127 44 rfl) rfl rfl
theorem r127_45 : Runs xs sl d 127 45 [l0, l1, some (.int i2), l3, l4] [s0] H r ↔ Runs xs sl d 127 46 [l0, l1, some (.int i2), l3, l4] [.int i2, s0] H r := q_iload_n (mo_127 45 rfl) rfl rfl
theorem r127_46 : Runs xs sl d 127 46 [l0, l1, l2, some (.int i3), l4] [s1, s0] H r ↔ Runs xs sl d 127 47 [l0, l1, l2, some (.int i3), l4] [.int i3, s1, s0] H r := q_iload_n (mo_127 46 rfl) rfl rfl
theorem r127_47 : Runs xs sl d 127 47 [l0, l1, l2, l3, some (.int i4)] [s2, s1, s0] H r ↔ Runs xs sl d 127 49 [l0, l1, l2, l3, some (.int i4)] [.int i4, s2, s1, s0] H r := q_iload (mo_127 47 rfl) rfl rfl
theorem r127_49 (hc : hC H b0 = some 6) : Runs xs sl (d + 1) 127 49 [l0, l1, l2, l3, l4] [.int u3, .int u2, .int u1, .ref b0] H r ↔ ∃ v H1, Runs xs sl d 117 0 [some (.ref b0), some (.int u1), some (.int u2), some (.int u3), none] [] H (v, H1) ∧ Runs xs sl (d + 1) 127 52 [l0, l1, l2, l3, l4] (v.toList ++ []) H1 r := q_callV (M' := 117) (as := [.int u1, .int u2, .int u3]) (rest := []) (mo_127 49 rfl) mow_127 rfl mcs_117 mmx_117 rfl (Nat.le_of_ble_eq_true rfl) (Nat.le_of_ble_eq_true rfl) rfl rfl hc
theorem r127_52 : Runs xs sl d 127 52 [l0, l1, l2, l3, l4] [.int u0] H r ↔ Runs xs sl d 127 53 [l0, l1, l2, l3, l4] [] H r := q_pop (mo_127 52 rfl) rfl rfl
theorem r127_53 : Runs xs sl d 127 53 [l0, l1, some (.int i2), some (.int i3), l4] [] H r ↔ Runs xs sl d 127 56 [l0, l1, some (.int i2), some (.int (i3 + 1)), l4] [] H r := q_iinc (mo_127 53 rfl) rfl (Nat.le_of_ble_eq_true rfl) rfl rfl
theorem r127_56 : Runs xs sl d 127 56 [l0, l1, l2, l3, l4] [] H r ↔ Runs xs sl d 127 15 [l0, l1, l2, l3, l4] [] H r := q_goto (mo_127 56 rfl) rfl
theorem r127_59 : Runs xs sl d 127 59 [l0, l1, l2, l3, l4] [] H r ↔ Runs xs sl d 127 60 [l0, l1, l2, l3, l4] [.int 1] H r := q_iconst (mo_127 59 rfl) rfl rfl
theorem r127_60 (h : u0 = 0 ∨ u0 = 1) : Runs xs sl d 127 60 [l0, l1, l2, l3, l4] [.int u0] H r ↔ r = (some (.int u0), H) := q_zret (mo_127 60 rfl) mrt_127 h
theorem r128_0 : Runs xs sl d 128 0 [some (.ref a0), l1] [] H r ↔ Runs xs sl d 128 1 [some (.ref a0), l1] [.ref a0] H r := q_aload_n (mo_128 0 rfl) rfl rfl
theorem r128_1 : Runs xs sl d 128 1 [l0, l1] [.ref b0] H r ↔ Runs xs sl d 128 2 [l0, l1] [.ref b0, .ref b0] H r := q_dup (mo_128 1 rfl) rfl rfl
theorem r128_2 : Runs xs sl d 128 2 [l0, l1] [.ref b1, s0] H r ↔ ∃ v, hO H b1 6 4 = some v ∧ Runs xs sl d 128 5 [l0, l1] [v, s0] H r := q_getf (mo_128 2 rfl) mow_128 rfl rfl
theorem r128_5 : Runs xs sl d 128 5 [l0, l1] [s1, s0] H r ↔ Runs xs sl d 128 6 [l0, l1] [.int 1, s1, s0] H r := q_iconst (mo_128 5 rfl) rfl rfl
theorem r128_6 : Runs xs sl d 128 6 [l0, l1] [.int u2, .int u1, s0] H r ↔ Runs xs sl d 128 7 [l0, l1] [.int (u1 + u2), s0] H r := q_iadd (mo_128 6 rfl) rfl
theorem r128_7 : Runs xs sl d 128 7 [l0, l1] [.int u1, .ref b0] H r ↔ ∃ H1, hOw H b0 6 4 (.int u1) = some H1 ∧ Runs xs sl d 128 10 [l0, l1] [] H1 r := q_putf (mo_128 7 rfl) mow_128 rfl rfl (by decide +kernel) rfl
theorem r128_10 : Runs xs sl d 128 10 [l0, l1] [] H r ↔ Runs xs sl d 128 11 [l0, l1] [.int 0] H r := q_iconst (mo_128 10 rfl) rfl rfl
theorem r128_11 : Runs xs sl d 128 11 [some (.ref a0), l1] [.int u0] H r ↔ Runs xs sl d 128 12 [some (.ref a0), some (.int u0)] [] H r := q_istore_n (mo_128 11 rfl) (Nat.le_of_ble_eq_true rfl) rfl rfl
theorem r128_11_1 : Runs xs sl d 128 11 [some .null, l1] [.int u0] H r ↔ Runs xs sl d 128 12 [some .null, some (.int u0)] [] H r := q_istore_n (mo_128 11 rfl) (Nat.le_of_ble_eq_true rfl) rfl rfl
theorem r128_12 : Runs xs sl d 128 12 [l0, some (.int i1)] [] H r ↔ Runs xs sl d 128 13 [l0, some (.int i1)] [.int i1] H r := q_iload_n (mo_128 12 rfl) rfl rfl
theorem r128_13 : Runs xs sl d 128 13 [some (.ref a0), l1] [s0] H r ↔ Runs xs sl d 128 14 [some (.ref a0), l1] [.ref a0, s0] H r := q_aload_n (mo_128 13 rfl) rfl rfl
theorem r128_14 : Runs xs sl d 128 14 [l0, l1] [.ref b1, s0] H r ↔ ∃ v, hO H b1 6 1 = some v ∧ Runs xs sl d 128 17 [l0, l1] [v, s0] H r := q_getf (mo_128 14 rfl) mow_128 rfl rfl
theorem r128_17 : Runs xs sl d 128 17 [l0, l1] [.int u1, .int u0] H r ↔ if u1 ≤ u0 then Runs xs sl d 128 36 [l0, l1] [] H r else Runs xs sl d 128 20 [l0, l1] [] H r := q_icmp_ge (mo_128 17 rfl) rfl rfl
theorem r128_20 : Runs xs sl d 128 20 [some (.ref a0), l1] [] H r ↔ Runs xs sl d 128 21 [some (.ref a0), l1] [.ref a0] H r := q_aload_n (mo_128 20 rfl) rfl rfl
theorem r128_21 : Runs xs sl d 128 21 [l0, l1] [.ref b0] H r ↔ ∃ v, hO H b0 6 6 = some v ∧ Runs xs sl d 128 24 [l0, l1] [v] H r := q_getf (mo_128 21 rfl) mow_128 rfl rfl
theorem r128_24 : Runs xs sl d 128 24 [l0, some (.int i1)] [s0] H r ↔ Runs xs sl d 128 25 [l0, some (.int i1)] [.int i1, s0] H r := q_iload_n (mo_128 24 rfl) rfl rfl
theorem r128_25 : Runs xs sl d 128 25 [l0, l1] [.int u1, .ref b0] H r ↔ Runs xs sl d 128 26 [l0, l1] [.int u1, .ref b0, .int u1, .ref b0] H r := q_dup2 (mo_128 25 rfl) rfl rfl rfl
theorem r128_26 : Runs xs sl d 128 26 [l0, l1] [.int u3, .ref b2, s1, s0] H r ↔ ∃ v, hA H b2 0 u3 = some v ∧ Runs xs sl d 128 27 [l0, l1] [.int v, s1, s0] H r := run_iald (mo_128 26 rfl) rfl
theorem r128_27 : Runs xs sl d 128 27 [l0, l1] [s2, s1, s0] H r ↔ Runs xs sl d 128 28 [l0, l1] [.int 1, s2, s1, s0] H r := q_iconst (mo_128 27 rfl) rfl rfl
theorem r128_28 : Runs xs sl d 128 28 [l0, l1] [.int u3, .int u2, s1, s0] H r ↔ Runs xs sl d 128 29 [l0, l1] [.int (u2 + u3), s1, s0] H r := q_iadd (mo_128 28 rfl) rfl
theorem r128_29 : Runs xs sl d 128 29 [l0, l1] [.int u2, .int u1, .ref b0] H r ↔ ∃ H1, hAw H b0 0 u1 u2 = some H1 ∧ Runs xs sl d 128 30 [l0, l1] [] H1 r := run_iast (mo_128 29 rfl) rfl
theorem r128_30 : Runs xs sl d 128 30 [some (.ref a0), some (.int i1)] [] H r ↔ Runs xs sl d 128 33 [some (.ref a0), some (.int (i1 + 1))] [] H r := q_iinc (mo_128 30 rfl) rfl (Nat.le_of_ble_eq_true rfl) rfl rfl
theorem r128_30_1 : Runs xs sl d 128 30 [some .null, some (.int i1)] [] H r ↔ Runs xs sl d 128 33 [some .null, some (.int (i1 + 1))] [] H r := q_iinc (mo_128 30 rfl) rfl (Nat.le_of_ble_eq_true rfl) rfl rfl
theorem r128_33 : Runs xs sl d 128 33 [l0, l1] [] H r ↔ Runs xs sl d 128 12 [l0, l1] [] H r := q_goto (mo_128 33 rfl) rfl
theorem r128_36 : Runs xs sl d 128 36 [l0, l1] [] H r ↔ r = (none, H) := q_ret (mo_128 36 rfl) mrt_128
theorem r129_0 : Runs xs sl d 129 0 [l0, some (.int i1)] [] H r ↔ Runs xs sl d 129 1 [l0, some (.int i1)] [.int i1] H r := q_iload_n (mo_129 0 rfl) rfl rfl
theorem r129_1 : Runs xs sl d 129 1 [l0, l1] [s0] H r ↔ Runs xs sl d 129 3 [l0, l1] [.int 10, s0] H r := q_bipush (mo_129 1 rfl) rfl rfl
theorem r129_3 : Runs xs sl d 129 3 [l0, l1] [.int u1, .int u0] H r ↔ if u1 ≤ u0 then Runs xs sl d 129 12 [l0, l1] [] H r else Runs xs sl d 129 6 [l0, l1] [] H r := q_icmp_ge (mo_129 3 rfl) rfl rfl
theorem r129_6 : Runs xs sl d 129 6 [some (.ref a0), l1] [] H r ↔ Runs xs sl d 129 7 [some (.ref a0), l1] [.ref a0] H r := q_aload_n (mo_129 6 rfl) rfl rfl
theorem r129_7 : Runs xs sl d 129 7 [l0, some (.int i1)] [s0] H r ↔ Runs xs sl d 129 8 [l0, some (.int i1)] [.int i1, s0] H r := q_iload_n (mo_129 7 rfl) rfl rfl
theorem r129_8 (hc : hC H b0 = some 6) : Runs xs sl (d + 1) 129 8 [l0, l1] [.int u1, .ref b0] H r ↔ ∃ v H1, Runs xs sl d 130 0 [some (.ref b0), some (.int u1)] [] H (v, H1) ∧ Runs xs sl (d + 1) 129 11 [l0, l1] (v.toList ++ []) H1 r := q_callV (M' := 130) (as := [.int u1]) (rest := []) (mo_129 8 rfl) mow_129 rfl mcs_130 mmx_130 rfl (Nat.le_of_ble_eq_true rfl) (Nat.le_of_ble_eq_true rfl) rfl rfl hc
theorem r129_11 : Runs xs sl d 129 11 [l0, l1] [.int u0] H r ↔ r = (some (.int u0), H) := q_iret (mo_129 11 rfl) mrt_129
theorem r129_12 : Runs xs sl d 129 12 [l0, some (.int i1)] [] H r ↔ Runs xs sl d 129 13 [l0, some (.int i1)] [.int i1] H r := q_iload_n (mo_129 12 rfl) rfl rfl
theorem r129_13 : Runs xs sl d 129 13 [l0, l1] [s0] H r ↔ Runs xs sl d 129 15 [l0, l1] [.int 20, s0] H r := q_bipush (mo_129 13 rfl) rfl rfl
theorem r129_15 : Runs xs sl d 129 15 [l0, l1] [.int u1, .int u0] H r ↔ if u1 ≤ u0 then Runs xs sl d 129 47 [l0, l1] [] H r else Runs xs sl d 129 18 [l0, l1] [] H r := q_icmp_ge (mo_129 15 rfl) rfl rfl
theorem r129_18 : Runs xs sl d 129 18 [some (.ref a0), l1] [] H r ↔ Runs xs sl d 129 19 [some (.ref a0), l1] [.ref a0] H r := q_aload_n (mo_129 18 rfl) rfl rfl
theorem r129_19 : Runs xs sl d 129 19 [l0, l1] [.ref b0] H r ↔ ∃ v, hO H b0 6 0 = some v ∧ Runs xs sl d 129 22 [l0, l1] [v] H r := q_getf (mo_129 19 rfl) mow_129 rfl rfl
theorem r129_22 : Runs xs sl d 129 22 [l0, some (.int i1)] [s0] H r ↔ Runs xs sl d 129 23 [l0, some (.int i1)] [.int i1, s0] H r := q_iload_n (mo_129 22 rfl) rfl rfl
theorem r129_23 : Runs xs sl d 129 23 [l0, l1] [s1, s0] H r ↔ Runs xs sl d 129 25 [l0, l1] [.int 10, s1, s0] H r := q_bipush (mo_129 23 rfl) rfl rfl
theorem r129_25 : Runs xs sl d 129 25 [l0, l1] [.int u2, .int u1, s0] H r ↔ Runs xs sl d 129 26 [l0, l1] [.int (u1 - u2), s0] H r := q_isub (mo_129 25 rfl) rfl
theorem r129_26 (hc : hC H b0 = some 8) : Runs xs sl (d + 1) 129 26 [l0, l1] [.int u1, .ref b0] H r ↔ ∃ v H1, Runs xs sl d 154 0 [some (.ref b0), some (.int u1)] [] H (v, H1) ∧ Runs xs sl (d + 1) 129 29 [l0, l1] (v.toList ++ []) H1 r := q_callV (M' := 154) (as := [.int u1]) (rest := []) (mo_129 26 rfl) mow_129 rfl mcs_154 mmx_154 rfl (Nat.le_of_ble_eq_true rfl) (Nat.le_of_ble_eq_true rfl) rfl rfl hc
theorem r129_29 : Runs xs sl d 129 29 [l0, l1] [.int u0] H r ↔ if u0 = 0 then Runs xs sl d 129 43 [l0, l1] [] H r else Runs xs sl d 129 32 [l0, l1] [] H r := q_if_eq (mo_129 29 rfl) rfl rfl
theorem r129_32 : Runs xs sl d 129 32 [some (.ref a0), l1] [] H r ↔ Runs xs sl d 129 33 [some (.ref a0), l1] [.ref a0] H r := q_aload_n (mo_129 32 rfl) rfl rfl
theorem r129_33 : Runs xs sl d 129 33 [l0, some (.int i1)] [s0] H r ↔ Runs xs sl d 129 34 [l0, some (.int i1)] [.int i1, s0] H r := q_iload_n (mo_129 33 rfl) rfl rfl
theorem r129_34 : Runs xs sl d 129 34 [l0, l1] [s1, s0] H r ↔ Runs xs sl d 129 36 [l0, l1] [.int 10, s1, s0] H r := q_bipush (mo_129 34 rfl) rfl rfl
theorem r129_36 : Runs xs sl d 129 36 [l0, l1] [.int u2, .int u1, s0] H r ↔ Runs xs sl d 129 37 [l0, l1] [.int (u1 - u2), s0] H r := q_isub (mo_129 36 rfl) rfl
theorem r129_37 (hc : hC H b0 = some 6) : Runs xs sl (d + 1) 129 37 [l0, l1] [.int u1, .ref b0] H r ↔ ∃ v H1, Runs xs sl d 134 0 [some (.ref b0), some (.int u1), none, none] [] H (v, H1) ∧ Runs xs sl (d + 1) 129 40 [l0, l1] (v.toList ++ []) H1 r := q_callV (M' := 134) (as := [.int u1]) (rest := []) (mo_129 37 rfl) mow_129 rfl mcs_134 mmx_134 rfl (Nat.le_of_ble_eq_true rfl) (Nat.le_of_ble_eq_true rfl) rfl rfl hc
theorem r129_40 : Runs xs sl d 129 40 [l0, l1] [s0] H r ↔ Runs xs sl d 129 46 [l0, l1] [s0] H r := q_goto (mo_129 40 rfl) rfl
theorem r129_43 : Runs xs sl d 129 43 [l0, l1] [] H r ↔ Runs xs sl d 129 46 [l0, l1] [.int (-1000)] H r := q_sipush (mo_129 43 rfl) rfl rfl
theorem r129_46 : Runs xs sl d 129 46 [l0, l1] [.int u0] H r ↔ r = (some (.int u0), H) := q_iret (mo_129 46 rfl) mrt_129
theorem r129_47 : Runs xs sl d 129 47 [l0, some (.int i1)] [] H r ↔ Runs xs sl d 129 48 [l0, some (.int i1)] [.int i1] H r := q_iload_n (mo_129 47 rfl) rfl rfl
theorem r129_48 : Runs xs sl d 129 48 [l0, l1] [s0] H r ↔ Runs xs sl d 129 50 [l0, l1] [.int 40, s0] H r := q_bipush (mo_129 48 rfl) rfl rfl
theorem r129_50 : Runs xs sl d 129 50 [l0, l1] [.int u1, .int u0] H r ↔ if u1 ≤ u0 then Runs xs sl d 129 79 [l0, l1] [] H r else Runs xs sl d 129 53 [l0, l1] [] H r := q_icmp_ge (mo_129 50 rfl) rfl rfl
theorem r129_53 : Runs xs sl d 129 53 [l0, some (.int i1)] [] H r ↔ Runs xs sl d 129 54 [l0, some (.int i1)] [.int i1] H r := q_iload_n (mo_129 53 rfl) rfl rfl
theorem r129_54 : Runs xs sl d 129 54 [l0, l1] [s0] H r ↔ Runs xs sl d 129 56 [l0, l1] [.int 20, s0] H r := q_bipush (mo_129 54 rfl) rfl rfl
theorem r129_56 : Runs xs sl d 129 56 [l0, l1] [.int u1, .int u0] H r ↔ Runs xs sl d 129 57 [l0, l1] [.int (u0 - u1)] H r := q_isub (mo_129 56 rfl) rfl
theorem r129_57 : Runs xs sl d 129 57 [some (.ref a0), l1] [s0] H r ↔ Runs xs sl d 129 58 [some (.ref a0), l1] [.ref a0, s0] H r := q_aload_n (mo_129 57 rfl) rfl rfl
theorem r129_58 : Runs xs sl d 129 58 [l0, l1] [.ref b1, s0] H r ↔ ∃ v, hO H b1 6 1 = some v ∧ Runs xs sl d 129 61 [l0, l1] [v, s0] H r := q_getf (mo_129 58 rfl) mow_129 rfl rfl
theorem r129_61 : Runs xs sl d 129 61 [l0, l1] [.int u1, .int u0] H r ↔ if u1 ≤ u0 then Runs xs sl d 129 75 [l0, l1] [] H r else Runs xs sl d 129 64 [l0, l1] [] H r := q_icmp_ge (mo_129 61 rfl) rfl rfl
theorem r129_64 : Runs xs sl d 129 64 [some (.ref a0), l1] [] H r ↔ Runs xs sl d 129 65 [some (.ref a0), l1] [.ref a0] H r := q_aload_n (mo_129 64 rfl) rfl rfl
theorem r129_65 : Runs xs sl d 129 65 [l0, some (.int i1)] [s0] H r ↔ Runs xs sl d 129 66 [l0, some (.int i1)] [.int i1, s0] H r := q_iload_n (mo_129 65 rfl) rfl rfl
theorem r129_66 : Runs xs sl d 129 66 [l0, l1] [s1, s0] H r ↔ Runs xs sl d 129 68 [l0, l1] [.int 20, s1, s0] H r := q_bipush (mo_129 66 rfl) rfl rfl
theorem r129_68 : Runs xs sl d 129 68 [l0, l1] [.int u2, .int u1, s0] H r ↔ Runs xs sl d 129 69 [l0, l1] [.int (u1 - u2), s0] H r := q_isub (mo_129 68 rfl) rfl
theorem r129_69 (hc : hC H b0 = some 6) : Runs xs sl (d + 1) 129 69 [l0, l1] [.int u1, .ref b0] H r ↔ ∃ v H1, Runs xs sl d 124 0 [some (.ref b0), some (.int u1)] [] H (v, H1) ∧ Runs xs sl (d + 1) 129 72 [l0, l1] (v.toList ++ []) H1 r := q_callV (M' := 124) (as := [.int u1]) (rest := []) (mo_129 69 rfl) mow_129 rfl mcs_124 mmx_124 rfl (Nat.le_of_ble_eq_true rfl) (Nat.le_of_ble_eq_true rfl) rfl rfl hc
theorem r129_72 : Runs xs sl d 129 72 [l0, l1] [s0] H r ↔ Runs xs sl d 129 78 [l0, l1] [s0] H r := q_goto (mo_129 72 rfl) rfl
theorem r129_75 : Runs xs sl d 129 75 [l0, l1] [] H r ↔ Runs xs sl d 129 78 [l0, l1] [.int (-1000)] H r := q_sipush (mo_129 75 rfl) rfl rfl
theorem r129_78 : Runs xs sl d 129 78 [l0, l1] [.int u0] H r ↔ r = (some (.int u0), H) := q_iret (mo_129 78 rfl) mrt_129
theorem r129_79 : Runs xs sl d 129 79 [l0, some (.int i1)] [] H r ↔ Runs xs sl d 129 80 [l0, some (.int i1)] [.int i1] H r := q_iload_n (mo_129 79 rfl) rfl rfl
theorem r129_80 : Runs xs sl d 129 80 [l0, l1] [s0] H r ↔ Runs xs sl d 129 82 [l0, l1] [.int 100, s0] H r := q_bipush (mo_129 80 rfl) rfl rfl
theorem r129_82 : Runs xs sl d 129 82 [l0, l1] [.int u1, .int u0] H r ↔ if u1 ≤ u0 then Runs xs sl d 129 105 [l0, l1] [] H r else Runs xs sl d 129 85 [l0, l1] [] H r := q_icmp_ge (mo_129 82 rfl) rfl rfl
theorem r129_85 : Runs xs sl d 129 85 [some (.ref a0), l1] [] H r ↔ Runs xs sl d 129 86 [some (.ref a0), l1] [.ref a0] H r := q_aload_n (mo_129 85 rfl) rfl rfl
theorem r129_86 : Runs xs sl d 129 86 [some (.ref a0), l1] [s0] H r ↔ Runs xs sl d 129 87 [some (.ref a0), l1] [.ref a0, s0] H r := q_aload_n (mo_129 86 rfl) rfl rfl
theorem r129_87 : Runs xs sl d 129 87 [l0, l1] [.ref b1, s0] H r ↔ ∃ v, hO H b1 6 2 = some v ∧ Runs xs sl d 129 90 [l0, l1] [v, s0] H r := q_getf (mo_129 87 rfl) mow_129 rfl rfl
theorem r129_90 : Runs xs sl d 129 90 [l0, some (.int i1)] [s1, s0] H r ↔ Runs xs sl d 129 91 [l0, some (.int i1)] [.int i1, s1, s0] H r := q_iload_n (mo_129 90 rfl) rfl rfl
theorem r129_91 : Runs xs sl d 129 91 [l0, l1] [s2, s1, s0] H r ↔ Runs xs sl d 129 93 [l0, l1] [.int 40, s2, s1, s0] H r := q_bipush (mo_129 91 rfl) rfl rfl
theorem r129_93 : Runs xs sl d 129 93 [l0, l1] [.int u3, .int u2, s1, s0] H r ↔ Runs xs sl d 129 94 [l0, l1] [.int (u2 - u3), s1, s0] H r := q_isub (mo_129 93 rfl) rfl
theorem r129_94 : Runs xs sl d 129 94 [some (.ref a0), l1] [s2, s1, s0] H r ↔ Runs xs sl d 129 95 [some (.ref a0), l1] [.ref a0, s2, s1, s0] H r := q_aload_n (mo_129 94 rfl) rfl rfl
theorem r129_95 : Runs xs sl d 129 95 [l0, l1] [.ref b3, s2, s1, s0] H r ↔ ∃ v, hO H b3 6 0 = some v ∧ Runs xs sl d 129 98 [l0, l1] [v, s2, s1, s0] H r := q_getf (mo_129 95 rfl) mow_129 rfl rfl
theorem r129_98 : Runs xs sl d 129 98 [l0, l1] [.ref b3, s2, s1, s0] H r ↔ ∃ v, hO H b3 8 2 = some v ∧ Runs xs sl d 129 101 [l0, l1] [v, s2, s1, s0] H r := q_getf (mo_129 98 rfl) mow_129 rfl rfl
theorem r129_101 (hc : hC H b0 = some 6) : Runs xs sl (d + 1) 129 101 [l0, l1] [.int u3, .int u2, .ref b1, .ref b0] H r ↔ ∃ v H1, Runs xs sl d 135 0 [some (.ref b0), some (.ref b1), some (.int u2), some (.int u3), none] [] H (v, H1) ∧ Runs xs sl (d + 1) 129 104 [l0, l1] (v.toList ++ []) H1 r := q_callV (M' := 135) (as := [.ref b1, .int u2, .int u3]) (rest := []) (mo_129 101 rfl) mow_129 rfl mcs_135 mmx_135 rfl (Nat.le_of_ble_eq_true rfl) (Nat.le_of_ble_eq_true rfl) rfl rfl hc
theorem r129_104 : Runs xs sl d 129 104 [l0, l1] [.int u0] H r ↔ r = (some (.int u0), H) := q_iret (mo_129 104 rfl) mrt_129
theorem r129_105 : Runs xs sl d 129 105 [l0, some (.int i1)] [] H r ↔ Runs xs sl d 129 106 [l0, some (.int i1)] [.int i1] H r := q_iload_n (mo_129 105 rfl) rfl rfl
theorem r129_106 : Runs xs sl d 129 106 [l0, l1] [s0] H r ↔ Runs xs sl d 129 109 [l0, l1] [.int 200, s0] H r := q_sipush (mo_129 106 rfl) rfl rfl
theorem r129_109 : Runs xs sl d 129 109 [l0, l1] [.int u1, .int u0] H r ↔ if u1 ≤ u0 then Runs xs sl d 129 129 [l0, l1] [] H r else Runs xs sl d 129 112 [l0, l1] [] H r := q_icmp_ge (mo_129 109 rfl) rfl rfl
theorem r129_112 : Runs xs sl d 129 112 [some (.ref a0), l1] [] H r ↔ Runs xs sl d 129 113 [some (.ref a0), l1] [.ref a0] H r := q_aload_n (mo_129 112 rfl) rfl rfl
theorem r129_113 : Runs xs sl d 129 113 [some (.ref a0), l1] [s0] H r ↔ Runs xs sl d 129 114 [some (.ref a0), l1] [.ref a0, s0] H r := q_aload_n (mo_129 113 rfl) rfl rfl
theorem r129_114 : Runs xs sl d 129 114 [l0, l1] [.ref b1, s0] H r ↔ ∃ v, hO H b1 6 3 = some v ∧ Runs xs sl d 129 117 [l0, l1] [v, s0] H r := q_getf (mo_129 114 rfl) mow_129 rfl rfl
theorem r129_117 : Runs xs sl d 129 117 [l0, some (.int i1)] [s1, s0] H r ↔ Runs xs sl d 129 118 [l0, some (.int i1)] [.int i1, s1, s0] H r := q_iload_n (mo_129 117 rfl) rfl rfl
theorem r129_118 : Runs xs sl d 129 118 [l0, l1] [s2, s1, s0] H r ↔ Runs xs sl d 129 120 [l0, l1] [.int 100, s2, s1, s0] H r := q_bipush (mo_129 118 rfl) rfl rfl
theorem r129_120 : Runs xs sl d 129 120 [l0, l1] [.int u3, .int u2, s1, s0] H r ↔ Runs xs sl d 129 121 [l0, l1] [.int (u2 - u3), s1, s0] H r := q_isub (mo_129 120 rfl) rfl
theorem r129_121 : Runs xs sl d 129 121 [some (.ref a0), l1] [s2, s1, s0] H r ↔ Runs xs sl d 129 122 [some (.ref a0), l1] [.ref a0, s2, s1, s0] H r := q_aload_n (mo_129 121 rfl) rfl rfl
theorem r129_122 : Runs xs sl d 129 122 [l0, l1] [.ref b3, s2, s1, s0] H r ↔ ∃ v, hO H b3 6 1 = some v ∧ Runs xs sl d 129 125 [l0, l1] [v, s2, s1, s0] H r := q_getf (mo_129 122 rfl) mow_129 rfl rfl
theorem r129_125 (hc : hC H b0 = some 6) : Runs xs sl (d + 1) 129 125 [l0, l1] [.int u3, .int u2, .ref b1, .ref b0] H r ↔ ∃ v H1, Runs xs sl d 135 0 [some (.ref b0), some (.ref b1), some (.int u2), some (.int u3), none] [] H (v, H1) ∧ Runs xs sl (d + 1) 129 128 [l0, l1] (v.toList ++ []) H1 r := q_callV (M' := 135) (as := [.ref b1, .int u2, .int u3]) (rest := []) (mo_129 125 rfl) mow_129 rfl mcs_135 mmx_135 rfl (Nat.le_of_ble_eq_true rfl) (Nat.le_of_ble_eq_true rfl) rfl rfl hc
theorem r129_128 : Runs xs sl d 129 128 [l0, l1] [.int u0] H r ↔ r = (some (.int u0), H) := q_iret (mo_129 128 rfl) mrt_129
theorem r129_129 : Runs xs sl d 129 129 [l0, some (.int i1)] [] H r ↔ Runs xs sl d 129 130 [l0, some (.int i1)] [.int i1] H r := q_iload_n (mo_129 129 rfl) rfl rfl
theorem r129_130 : Runs xs sl d 129 130 [l0, l1] [s0] H r ↔ Runs xs sl d 129 133 [l0, l1] [.int 240, s0] H r := q_sipush (mo_129 130 rfl) rfl rfl
theorem r129_133 : Runs xs sl d 129 133 [l0, l1] [.int u1, .int u0] H r ↔ if u1 ≤ u0 then Runs xs sl d 129 151 [l0, l1] [] H r else Runs xs sl d 129 136 [l0, l1] [] H r := q_icmp_ge (mo_129 133 rfl) rfl rfl
theorem r129_136 : Runs xs sl d 129 136 [some (.ref a0), l1] [] H r ↔ Runs xs sl d 129 137 [some (.ref a0), l1] [.ref a0] H r := q_aload_n (mo_129 136 rfl) rfl rfl
theorem r129_137 : Runs xs sl d 129 137 [some (.ref a0), l1] [s0] H r ↔ Runs xs sl d 129 138 [some (.ref a0), l1] [.ref a0, s0] H r := q_aload_n (mo_129 137 rfl) rfl rfl
theorem r129_138 : Runs xs sl d 129 138 [l0, l1] [.ref b1, s0] H r ↔ ∃ v, hO H b1 6 8 = some v ∧ Runs xs sl d 129 141 [l0, l1] [v, s0] H r := q_getf (mo_129 138 rfl) mow_129 rfl rfl
theorem r129_141 : Runs xs sl d 129 141 [l0, some (.int i1)] [s1, s0] H r ↔ Runs xs sl d 129 142 [l0, some (.int i1)] [.int i1, s1, s0] H r := q_iload_n (mo_129 141 rfl) rfl rfl
theorem r129_142 : Runs xs sl d 129 142 [l0, l1] [s2, s1, s0] H r ↔ Runs xs sl d 129 145 [l0, l1] [.int 200, s2, s1, s0] H r := q_sipush (mo_129 142 rfl) rfl rfl
theorem r129_145 : Runs xs sl d 129 145 [l0, l1] [.int u3, .int u2, s1, s0] H r ↔ Runs xs sl d 129 146 [l0, l1] [.int (u2 - u3), s1, s0] H r := q_isub (mo_129 145 rfl) rfl
theorem r129_146 : Runs xs sl d 129 146 [l0, l1] [s2, s1, s0] H r ↔ Runs xs sl d 129 147 [l0, l1] [.int 4, s2, s1, s0] H r := q_iconst (mo_129 146 rfl) rfl rfl
theorem r129_147 (hc : hC H b0 = some 6) : Runs xs sl (d + 1) 129 147 [l0, l1] [.int u3, .int u2, .ref b1, .ref b0] H r ↔ ∃ v H1, Runs xs sl d 135 0 [some (.ref b0), some (.ref b1), some (.int u2), some (.int u3), none] [] H (v, H1) ∧ Runs xs sl (d + 1) 129 150 [l0, l1] (v.toList ++ []) H1 r := q_callV (M' := 135) (as := [.ref b1, .int u2, .int u3]) (rest := []) (mo_129 147 rfl) mow_129 rfl mcs_135 mmx_135 rfl (Nat.le_of_ble_eq_true rfl) (Nat.le_of_ble_eq_true rfl) rfl rfl hc
theorem r129_150 : Runs xs sl d 129 150 [l0, l1] [.int u0] H r ↔ r = (some (.int u0), H) := q_iret (mo_129 150 rfl) mrt_129
theorem r129_151 : Runs xs sl d 129 151 [l0, some (.int i1)] [] H r ↔ Runs xs sl d 129 152 [l0, some (.int i1)] [.int i1] H r := q_iload_n (mo_129 151 rfl) rfl rfl
theorem r129_152 : Runs xs sl d 129 152 [l0, l1] [s0] H r ↔ Runs xs sl d 129 155 [l0, l1] [.int 280, s0] H r := q_sipush (mo_129 152 rfl) rfl rfl
theorem r129_155 : Runs xs sl d 129 155 [l0, l1] [.int u1, .int u0] H r ↔ if u1 ≤ u0 then Runs xs sl d 129 173 [l0, l1] [] H r else Runs xs sl d 129 158 [l0, l1] [] H r := q_icmp_ge (mo_129 155 rfl) rfl rfl
theorem r129_158 : Runs xs sl d 129 158 [some (.ref a0), l1] [] H r ↔ Runs xs sl d 129 159 [some (.ref a0), l1] [.ref a0] H r := q_aload_n (mo_129 158 rfl) rfl rfl
theorem r129_159 : Runs xs sl d 129 159 [some (.ref a0), l1] [s0] H r ↔ Runs xs sl d 129 160 [some (.ref a0), l1] [.ref a0, s0] H r := q_aload_n (mo_129 159 rfl) rfl rfl
theorem r129_160 : Runs xs sl d 129 160 [l0, l1] [.ref b1, s0] H r ↔ ∃ v, hO H b1 6 9 = some v ∧ Runs xs sl d 129 163 [l0, l1] [v, s0] H r := q_getf (mo_129 160 rfl) mow_129 rfl rfl
theorem r129_163 : Runs xs sl d 129 163 [l0, some (.int i1)] [s1, s0] H r ↔ Runs xs sl d 129 164 [l0, some (.int i1)] [.int i1, s1, s0] H r := q_iload_n (mo_129 163 rfl) rfl rfl
theorem r129_164 : Runs xs sl d 129 164 [l0, l1] [s2, s1, s0] H r ↔ Runs xs sl d 129 167 [l0, l1] [.int 240, s2, s1, s0] H r := q_sipush (mo_129 164 rfl) rfl rfl
theorem r129_167 : Runs xs sl d 129 167 [l0, l1] [.int u3, .int u2, s1, s0] H r ↔ Runs xs sl d 129 168 [l0, l1] [.int (u2 - u3), s1, s0] H r := q_isub (mo_129 167 rfl) rfl
theorem r129_168 : Runs xs sl d 129 168 [l0, l1] [s2, s1, s0] H r ↔ Runs xs sl d 129 169 [l0, l1] [.int 4, s2, s1, s0] H r := q_iconst (mo_129 168 rfl) rfl rfl
theorem r129_169 (hc : hC H b0 = some 6) : Runs xs sl (d + 1) 129 169 [l0, l1] [.int u3, .int u2, .ref b1, .ref b0] H r ↔ ∃ v H1, Runs xs sl d 135 0 [some (.ref b0), some (.ref b1), some (.int u2), some (.int u3), none] [] H (v, H1) ∧ Runs xs sl (d + 1) 129 172 [l0, l1] (v.toList ++ []) H1 r := q_callV (M' := 135) (as := [.ref b1, .int u2, .int u3]) (rest := []) (mo_129 169 rfl) mow_129 rfl mcs_135 mmx_135 rfl (Nat.le_of_ble_eq_true rfl) (Nat.le_of_ble_eq_true rfl) rfl rfl hc
theorem r129_172 : Runs xs sl d 129 172 [l0, l1] [.int u0] H r ↔ r = (some (.int u0), H) := q_iret (mo_129 172 rfl) mrt_129
theorem r129_173 : Runs xs sl d 129 173 [l0, some (.int i1)] [] H r ↔ Runs xs sl d 129 174 [l0, some (.int i1)] [.int i1] H r := q_iload_n (mo_129 173 rfl) rfl rfl
theorem r129_174 : Runs xs sl d 129 174 [l0, l1] [s0] H r ↔ Runs xs sl d 129 177 [l0, l1] [.int 300, s0] H r := q_sipush (mo_129 174 rfl) rfl rfl
theorem r129_177 : Runs xs sl d 129 177 [l0, l1] [.int u1, .int u0] H r ↔ if u1 ≤ u0 then Runs xs sl d 129 206 [l0, l1] [] H r else Runs xs sl d 129 180 [l0, l1] [] H r := q_icmp_ge (mo_129 177 rfl) rfl rfl
theorem r129_180 : Runs xs sl d 129 180 [l0, some (.int i1)] [] H r ↔ Runs xs sl d 129 181 [l0, some (.int i1)] [.int i1] H r := q_iload_n (mo_129 180 rfl) rfl rfl
theorem r129_181 : Runs xs sl d 129 181 [l0, l1] [s0] H r ↔ Runs xs sl d 129 184 [l0, l1] [.int 280, s0] H r := q_sipush (mo_129 181 rfl) rfl rfl
theorem r129_184 : Runs xs sl d 129 184 [l0, l1] [.int u1, .int u0] H r ↔ Runs xs sl d 129 185 [l0, l1] [.int (u0 - u1)] H r := q_isub (mo_129 184 rfl) rfl
theorem r129_185 : Runs xs sl d 129 185 [l0, l1] [s0] H r ↔ Runs xs sl d 129 186 [l0, l1] [.int 4, s0] H r := q_iconst (mo_129 185 rfl) rfl rfl
theorem r129_186 : Runs xs sl d 129 186 [l0, l1] [.int u1, .int u0] H r ↔ if u1 ≤ u0 then Runs xs sl d 129 202 [l0, l1] [] H r else Runs xs sl d 129 189 [l0, l1] [] H r := q_icmp_ge (mo_129 186 rfl) rfl rfl
theorem r129_189 : Runs xs sl d 129 189 [some (.ref a0), l1] [] H r ↔ Runs xs sl d 129 190 [some (.ref a0), l1] [.ref a0] H r := q_aload_n (mo_129 189 rfl) rfl rfl
theorem r129_190 : Runs xs sl d 129 190 [l0, l1] [.ref b0] H r ↔ ∃ v, hO H b0 6 10 = some v ∧ Runs xs sl d 129 193 [l0, l1] [v] H r := q_getf (mo_129 190 rfl) mow_129 rfl rfl
theorem r129_193 : Runs xs sl d 129 193 [l0, some (.int i1)] [s0] H r ↔ Runs xs sl d 129 194 [l0, some (.int i1)] [.int i1, s0] H r := q_iload_n (mo_129 193 rfl) rfl rfl
theorem r129_194 : Runs xs sl d 129 194 [l0, l1] [s1, s0] H r ↔ Runs xs sl d 129 197 [l0, l1] [.int 280, s1, s0] H r := q_sipush (mo_129 194 rfl) rfl rfl
theorem r129_197 : Runs xs sl d 129 197 [l0, l1] [.int u2, .int u1, s0] H r ↔ Runs xs sl d 129 198 [l0, l1] [.int (u1 - u2), s0] H r := q_isub (mo_129 197 rfl) rfl
theorem r129_198 : Runs xs sl d 129 198 [l0, l1] [.int u1, .ref b0] H r ↔ ∃ v, hA H b0 0 u1 = some v ∧ Runs xs sl d 129 199 [l0, l1] [.int v] H r := run_iald (mo_129 198 rfl) rfl
theorem r129_199 : Runs xs sl d 129 199 [l0, l1] [s0] H r ↔ Runs xs sl d 129 205 [l0, l1] [s0] H r := q_goto (mo_129 199 rfl) rfl
theorem r129_202 : Runs xs sl d 129 202 [l0, l1] [] H r ↔ Runs xs sl d 129 205 [l0, l1] [.int (-1000)] H r := q_sipush (mo_129 202 rfl) rfl rfl
theorem r129_205 : Runs xs sl d 129 205 [l0, l1] [.int u0] H r ↔ r = (some (.int u0), H) := q_iret (mo_129 205 rfl) mrt_129
theorem r129_206 : Runs xs sl d 129 206 [some (.ref a0), l1] [] H r ↔ Runs xs sl d 129 207 [some (.ref a0), l1] [.ref a0] H r := q_aload_n (mo_129 206 rfl) rfl rfl
theorem r129_207 : Runs xs sl d 129 207 [l0, some (.int i1)] [s0] H r ↔ Runs xs sl d 129 208 [l0, some (.int i1)] [.int i1, s0] H r := q_iload_n (mo_129 207 rfl) rfl rfl
theorem r129_208 : Runs xs sl d 129 208 [l0, l1] [s1, s0] H r ↔ Runs xs sl d 129 211 [l0, l1] [.int 300, s1, s0] H r := q_sipush (mo_129 208 rfl) rfl rfl
theorem r129_211 : Runs xs sl d 129 211 [l0, l1] [.int u2, .int u1, s0] H r ↔ Runs xs sl d 129 212 [l0, l1] [.int (u1 - u2), s0] H r := q_isub (mo_129 211 rfl) rfl
theorem r129_212 : Runs xs sl d 129 212 [l0, l1] [s1, s0] H r ↔ Runs xs sl d 129 214 [l0, l1] [.int 16, s1, s0] H r := q_bipush (mo_129 212 rfl) rfl rfl
theorem r129_214 (h : ¬ u2 = 0) : Runs xs sl d 129 214 [l0, l1] [.int u2, .int u1, s0] H r ↔ Runs xs sl d 129 215 [l0, l1] [.int (u1 / u2), s0] H r := q_idiv (mo_129 214 rfl) h rfl
theorem r129_215 : Runs xs sl d 129 215 [l0, some (.int i1)] [s1, s0] H r ↔ Runs xs sl d 129 216 [l0, some (.int i1)] [.int i1, s1, s0] H r := q_iload_n (mo_129 215 rfl) rfl rfl
theorem r129_216 : Runs xs sl d 129 216 [l0, l1] [s2, s1, s0] H r ↔ Runs xs sl d 129 219 [l0, l1] [.int 300, s2, s1, s0] H r := q_sipush (mo_129 216 rfl) rfl rfl
theorem r129_219 : Runs xs sl d 129 219 [l0, l1] [.int u3, .int u2, s1, s0] H r ↔ Runs xs sl d 129 220 [l0, l1] [.int (u2 - u3), s1, s0] H r := q_isub (mo_129 219 rfl) rfl
theorem r129_220 : Runs xs sl d 129 220 [l0, l1] [s2, s1, s0] H r ↔ Runs xs sl d 129 222 [l0, l1] [.int 16, s2, s1, s0] H r := q_bipush (mo_129 220 rfl) rfl rfl
theorem r129_222 (h : ¬ u3 = 0) : Runs xs sl d 129 222 [l0, l1] [.int u3, .int u2, s1, s0] H r ↔ Runs xs sl d 129 223 [l0, l1] [.int (u2 - u2 / u3 * u3), s1, s0] H r := q_irem (mo_129 222 rfl) h rfl
theorem r129_223 (hc : hC H b0 = some 6) : Runs xs sl (d + 1) 129 223 [l0, l1] [.int u2, .int u1, .ref b0] H r ↔ ∃ v H1, Runs xs sl d 136 0 [some (.ref b0), some (.int u1), some (.int u2)] [] H (v, H1) ∧ Runs xs sl (d + 1) 129 226 [l0, l1] (v.toList ++ []) H1 r := q_callV (M' := 136) (as := [.int u1, .int u2]) (rest := []) (mo_129 223 rfl) mow_129 rfl mcs_136 mmx_136 rfl (Nat.le_of_ble_eq_true rfl) (Nat.le_of_ble_eq_true rfl) rfl rfl hc
theorem r129_226 : Runs xs sl d 129 226 [l0, l1] [.int u0] H r ↔ r = (some (.int u0), H) := q_iret (mo_129 226 rfl) mrt_129
theorem r130_0 : Runs xs sl d 130 0 [l0, some (.int i1)] [] H r ↔ Runs xs sl d 130 1 [l0, some (.int i1)] [.int i1] H r := q_iload_n (mo_130 0 rfl) rfl rfl
theorem r130_1_c0 : Runs xs sl d 130 1 [l0, l1] [.int 0] H r ↔ Runs xs sl d 130 32 [l0, l1] [] H r := q_tsw (off := 31) (mo_130 1 rfl) rfl rfl
theorem r130_1_c1 : Runs xs sl d 130 1 [l0, l1] [.int 1] H r ↔ Runs xs sl d 130 37 [l0, l1] [] H r := q_tsw (off := 36) (mo_130 1 rfl) rfl rfl
theorem r130_1_c2 : Runs xs sl d 130 1 [l0, l1] [.int 2] H r ↔ Runs xs sl d 130 42 [l0, l1] [] H r := q_tsw (off := 41) (mo_130 1 rfl) rfl rfl
theorem r130_1_c3 : Runs xs sl d 130 1 [l0, l1] [.int 3] H r ↔ Runs xs sl d 130 47 [l0, l1] [] H r := q_tsw (off := 46) (mo_130 1 rfl) rfl rfl
theorem r130_1_d (h : u0.toInt < 0 ∨ 3 < u0.toInt) : Runs xs sl d 130 1 [l0, l1] [.int u0] H r ↔ Runs xs sl d 130 52 [l0, l1] [] H r := q_tswD (mo_130 1 rfl) rfl h
theorem r130_32 : Runs xs sl d 130 32 [some (.ref a0), l1] [] H r ↔ Runs xs sl d 130 33 [some (.ref a0), l1] [.ref a0] H r := q_aload_n (mo_130 32 rfl) rfl rfl
theorem r130_33 : Runs xs sl d 130 33 [l0, l1] [.ref b0] H r ↔ ∃ v, hO H b0 6 4 = some v ∧ Runs xs sl d 130 36 [l0, l1] [v] H r := q_getf (mo_130 33 rfl) mow_130 rfl rfl
theorem r130_36 : Runs xs sl d 130 36 [l0, l1] [.int u0] H r ↔ r = (some (.int u0), H) := q_iret (mo_130 36 rfl) mrt_130
theorem r130_37 : Runs xs sl d 130 37 [some (.ref a0), l1] [] H r ↔ Runs xs sl d 130 38 [some (.ref a0), l1] [.ref a0] H r := q_aload_n (mo_130 37 rfl) rfl rfl
theorem r130_38 : Runs xs sl d 130 38 [l0, l1] [.ref b0] H r ↔ ∃ v, hO H b0 6 1 = some v ∧ Runs xs sl d 130 41 [l0, l1] [v] H r := q_getf (mo_130 38 rfl) mow_130 rfl rfl
theorem r130_41 : Runs xs sl d 130 41 [l0, l1] [.int u0] H r ↔ r = (some (.int u0), H) := q_iret (mo_130 41 rfl) mrt_130
theorem r130_42 : Runs xs sl d 130 42 [some (.ref a0), l1] [] H r ↔ Runs xs sl d 130 43 [some (.ref a0), l1] [.ref a0] H r := q_aload_n (mo_130 42 rfl) rfl rfl
theorem r130_43 (hc : hC H b0 = some 6) : Runs xs sl (d + 1) 130 43 [l0, l1] [.ref b0] H r ↔ ∃ v H1, Runs xs sl d 131 0 [some (.ref b0), none, none] [] H (v, H1) ∧ Runs xs sl (d + 1) 130 46 [l0, l1] (v.toList ++ []) H1 r := q_callV (M' := 131) (as := []) (rest := []) (mo_130 43 rfl) mow_130 rfl mcs_131 mmx_131 rfl (Nat.le_of_ble_eq_true rfl) (Nat.le_of_ble_eq_true rfl) rfl rfl hc
theorem r130_46 : Runs xs sl d 130 46 [l0, l1] [.int u0] H r ↔ r = (some (.int u0), H) := q_iret (mo_130 46 rfl) mrt_130
theorem r130_47 : Runs xs sl d 130 47 [some (.ref a0), l1] [] H r ↔ Runs xs sl d 130 48 [some (.ref a0), l1] [.ref a0] H r := q_aload_n (mo_130 47 rfl) rfl rfl
theorem r130_48 (hc : hC H b0 = some 6) : Runs xs sl (d + 1) 130 48 [l0, l1] [.ref b0] H r ↔ ∃ v H1, Runs xs sl d 132 0 [some (.ref b0)] [] H (v, H1) ∧ Runs xs sl (d + 1) 130 51 [l0, l1] (v.toList ++ []) H1 r := q_callV (M' := 132) (as := []) (rest := []) (mo_130 48 rfl) mow_130 rfl mcs_132 mmx_132 rfl (Nat.le_of_ble_eq_true rfl) (Nat.le_of_ble_eq_true rfl) rfl rfl hc
theorem r130_51 : Runs xs sl d 130 51 [l0, l1] [.int u0] H r ↔ r = (some (.int u0), H) := q_iret (mo_130 51 rfl) mrt_130
theorem r130_52 : Runs xs sl d 130 52 [l0, l1] [] H r ↔ Runs xs sl d 130 55 [l0, l1] [.int (-1000)] H r := q_sipush (mo_130 52 rfl) rfl rfl
theorem r130_55 : Runs xs sl d 130 55 [l0, l1] [.int u0] H r ↔ r = (some (.int u0), H) := q_iret (mo_130 55 rfl) mrt_130
theorem r131_0 : Runs xs sl d 131 0 [l0, l1, l2] [] H r ↔ Runs xs sl d 131 1 [l0, l1, l2] [.int 0] H r := q_iconst (mo_131 0 rfl) rfl rfl
theorem r131_1 : Runs xs sl d 131 1 [some (.ref a0), l1, l2] [.int u0] H r ↔ Runs xs sl d 131 2 [some (.ref a0), some (.int u0), l2] [] H r := q_istore_n (mo_131 1 rfl) (Nat.le_of_ble_eq_true rfl) rfl rfl
theorem r131_1_1 : Runs xs sl d 131 1 [some .null, l1, l2] [.int u0] H r ↔ Runs xs sl d 131 2 [some .null, some (.int u0), l2] [] H r := q_istore_n (mo_131 1 rfl) (Nat.le_of_ble_eq_true rfl) rfl rfl
theorem r131_2 : Runs xs sl d 131 2 [l0, l1, l2] [] H r ↔ Runs xs sl d 131 3 [l0, l1, l2] [.int 0] H r := q_iconst (mo_131 2 rfl) rfl rfl
theorem r131_3 : Runs xs sl d 131 3 [l0, some (.int i1), l2] [.int u0] H r ↔ Runs xs sl d 131 4 [l0, some (.int i1), some (.int u0)] [] H r := q_istore_n (mo_131 3 rfl) (Nat.le_of_ble_eq_true rfl) rfl rfl
theorem r131_4 : Runs xs sl d 131 4 [l0, l1, some (.int i2)] [] H r ↔ Runs xs sl d 131 5 [l0, l1, some (.int i2)] [.int i2] H r := q_iload_n (mo_131 4 rfl) rfl rfl
theorem r131_5 : Runs xs sl d 131 5 [some (.ref a0), l1, l2] [s0] H r ↔ Runs xs sl d 131 6 [some (.ref a0), l1, l2] [.ref a0, s0] H r := q_aload_n (mo_131 5 rfl) rfl rfl
theorem r131_6 : Runs xs sl d 131 6 [l0, l1, l2] [.ref b1, s0] H r ↔ ∃ v, hO H b1 6 1 = some v ∧ Runs xs sl d 131 9 [l0, l1, l2] [v, s0] H r := q_getf (mo_131 6 rfl) mow_131 rfl rfl
theorem r131_9 : Runs xs sl d 131 9 [l0, l1, l2] [.int u1, .int u0] H r ↔ if u1 ≤ u0 then Runs xs sl d 131 35 [l0, l1, l2] [] H r else Runs xs sl d 131 12 [l0, l1, l2] [] H r := q_icmp_ge (mo_131 9 rfl) rfl rfl
theorem r131_12 : Runs xs sl d 131 12 [l0, some (.int i1), l2] [] H r ↔ Runs xs sl d 131 13 [l0, some (.int i1), l2] [.int i1] H r := q_iload_n (mo_131 12 rfl) rfl rfl
theorem r131_13 : Runs xs sl d 131 13 [some (.ref a0), l1, l2] [s0] H r ↔ Runs xs sl d 131 14 [some (.ref a0), l1, l2] [.ref a0, s0] H r := q_aload_n (mo_131 13 rfl) rfl rfl
theorem r131_14 : Runs xs sl d 131 14 [l0, l1, l2] [.ref b1, s0] H r ↔ ∃ v, hO H b1 6 7 = some v ∧ Runs xs sl d 131 17 [l0, l1, l2] [v, s0] H r := q_getf (mo_131 14 rfl) mow_131 rfl rfl
theorem r131_17 : Runs xs sl d 131 17 [l0, l1, some (.int i2)] [s1, s0] H r ↔ Runs xs sl d 131 18 [l0, l1, some (.int i2)] [.int i2, s1, s0] H r := q_iload_n (mo_131 17 rfl) rfl rfl
theorem r131_18 : Runs xs sl d 131 18 [l0, l1, l2] [.int u2, .ref b1, s0] H r ↔ ∃ v, hB H b1 u2 = some v ∧ Runs xs sl d 131 19 [l0, l1, l2] [.int v, s0] H r := run_bald (mo_131 18 rfl) rfl
theorem r131_19 : Runs xs sl d 131 19 [l0, l1, l2] [.int u1, s0] H r ↔ if u1 = 0 then Runs xs sl d 131 26 [l0, l1, l2] [s0] H r else Runs xs sl d 131 22 [l0, l1, l2] [s0] H r := q_if_eq (mo_131 19 rfl) rfl rfl
theorem r131_22 : Runs xs sl d 131 22 [l0, l1, l2] [s0] H r ↔ Runs xs sl d 131 23 [l0, l1, l2] [.int 1, s0] H r := q_iconst (mo_131 22 rfl) rfl rfl
theorem r131_23 : Runs xs sl d 131 23 [l0, l1, l2] [s1, s0] H r ↔ Runs xs sl d 131 27 [l0, l1, l2] [s1, s0] H r := q_goto (mo_131 23 rfl) rfl
theorem r131_26 : Runs xs sl d 131 26 [l0, l1, l2] [s0] H r ↔ Runs xs sl d 131 27 [l0, l1, l2] [.int 0, s0] H r := q_iconst (mo_131 26 rfl) rfl rfl
theorem r131_27 : Runs xs sl d 131 27 [l0, l1, l2] [.int u1, .int u0] H r ↔ Runs xs sl d 131 28 [l0, l1, l2] [.int (u0 + u1)] H r := q_iadd (mo_131 27 rfl) rfl
theorem r131_28 : Runs xs sl d 131 28 [some (.ref a0), l1, l2] [.int u0] H r ↔ Runs xs sl d 131 29 [some (.ref a0), some (.int u0), l2] [] H r := q_istore_n (mo_131 28 rfl) (Nat.le_of_ble_eq_true rfl) rfl rfl
theorem r131_28_1 : Runs xs sl d 131 28 [some .null, l1, l2] [.int u0] H r ↔ Runs xs sl d 131 29 [some .null, some (.int u0), l2] [] H r := q_istore_n (mo_131 28 rfl) (Nat.le_of_ble_eq_true rfl) rfl rfl
theorem r131_29 : Runs xs sl d 131 29 [l0, some (.int i1), some (.int i2)] [] H r ↔ Runs xs sl d 131 32 [l0, some (.int i1), some (.int (i2 + 1))] [] H r := q_iinc (mo_131 29 rfl) rfl (Nat.le_of_ble_eq_true rfl) rfl rfl
theorem r131_32 : Runs xs sl d 131 32 [l0, l1, l2] [] H r ↔ Runs xs sl d 131 4 [l0, l1, l2] [] H r := q_goto (mo_131 32 rfl) rfl
theorem r131_35 : Runs xs sl d 131 35 [l0, some (.int i1), l2] [] H r ↔ Runs xs sl d 131 36 [l0, some (.int i1), l2] [.int i1] H r := q_iload_n (mo_131 35 rfl) rfl rfl
theorem r131_36 : Runs xs sl d 131 36 [l0, l1, l2] [.int u0] H r ↔ r = (some (.int u0), H) := q_iret (mo_131 36 rfl) mrt_131
theorem r132_0 : Runs xs sl d 132 0 [some (.ref a0)] [] H r ↔ Runs xs sl d 132 1 [some (.ref a0)] [.ref a0] H r := q_aload_n (mo_132 0 rfl) rfl rfl
theorem r132_1 : Runs xs sl d 132 1 [l0] [.ref b0] H r ↔ ∃ v, hO H b0 6 0 = some v ∧ Runs xs sl d 132 4 [l0] [v] H r := q_getf (mo_132 1 rfl) mow_132 rfl rfl
theorem r132_4 : Runs xs sl d 132 4 [l0] [.ref b0] H r ↔ ∃ v, hO H b0 8 0 = some v ∧ Runs xs sl d 132 7 [l0] [v] H r := q_getf (mo_132 4 rfl) mow_132 rfl rfl
theorem r132_7 : Runs xs sl d 132 7 [some (.ref a0)] [s0] H r ↔ Runs xs sl d 132 8 [some (.ref a0)] [.ref a0, s0] H r := q_aload_n (mo_132 7 rfl) rfl rfl
theorem r132_8 : Runs xs sl d 132 8 [some (.ref a0)] [s1, s0] H r ↔ Runs xs sl d 132 9 [some (.ref a0)] [.ref a0, s1, s0] H r := q_aload_n (mo_132 8 rfl) rfl rfl
theorem r132_9 : Runs xs sl d 132 9 [l0] [.ref b2, s1, s0] H r ↔ ∃ v, hO H b2 6 2 = some v ∧ Runs xs sl d 132 12 [l0] [v, s1, s0] H r := q_getf (mo_132 9 rfl) mow_132 rfl rfl
theorem r132_12 : Runs xs sl d 132 12 [some (.ref a0)] [s2, s1, s0] H r ↔ Runs xs sl d 132 13 [some (.ref a0)] [.ref a0, s2, s1, s0] H r := q_aload_n (mo_132 12 rfl) rfl rfl
theorem r132_13 : Runs xs sl d 132 13 [l0] [.ref b3, s2, s1, s0] H r ↔ ∃ v, hO H b3 6 0 = some v ∧ Runs xs sl d 132 16 [l0] [v, s2, s1, s0] H r := q_getf (mo_132 13 rfl) mow_132 rfl rfl
theorem r132_16 : Runs xs sl d 132 16 [l0] [.ref b3, s2, s1, s0] H r ↔ ∃ v, hO H b3 8 2 = some v ∧ Runs xs sl d 132 19 [l0] [v, s2, s1, s0] H r := q_getf (mo_132 16 rfl) mow_132 rfl rfl
theorem r132_19 (hc : hC H b1 = some 6) : Runs xs sl (d + 1) 132 19 [l0] [.int u3, .ref b2, .ref b1, .int u0] H r ↔ ∃ v H1, Runs xs sl d 133 0 [some (.ref b1), some (.ref b2), some (.int u3), none, none, none, none, none] [] H (v, H1) ∧ Runs xs sl (d + 1) 132 22 [l0] (v.toList ++ [.int u0]) H1 r := q_callV (M' := 133) (as := [.ref b2, .int u3]) (rest := [.int u0]) (mo_132 19 rfl) mow_132 rfl mcs_133 mmx_133 rfl (Nat.le_of_ble_eq_true rfl) (Nat.le_of_ble_eq_true rfl) rfl rfl hc
theorem r132_22 : Runs xs sl (d + 1) 132 22 [l0] [.int u1, .int u0] H r ↔ ∃ v H1, Runs xs sl d 287 0 [some (.int u1)] [] H (v, H1) ∧ Runs xs sl (d + 1) 132 25 [l0] (v.toList ++ [.int u0]) H1 r := q_callS (M' := 287) (as := [.int u1]) (rest := [.int u0]) (mo_132 22 rfl) mow_132 rfl mmx_287 rfl (Nat.le_of_ble_eq_true rfl) (Nat.le_of_ble_eq_true rfl) rfl rfl
theorem r132_25 : Runs xs sl d 132 25 [l0] [.int u1, .int u0] H r ↔ Runs xs sl d 132 26 [l0] [.int (u0 - u1)] H r := q_isub (mo_132 25 rfl) rfl
theorem r132_26 : Runs xs sl d 132 26 [l0] [.int u0] H r ↔ r = (some (.int u0), H) := q_iret (mo_132 26 rfl) mrt_132
theorem r133_0 : Runs xs sl d 133 0 [l0, l1, l2, l3, l4, l5, l6, l7] [] H r ↔ Runs xs sl d 133 1 [l0, l1, l2, l3, l4, l5, l6, l7] [.int 0] H r := q_iconst (mo_133 0 rfl) rfl rfl
theorem r133_1 : Runs xs sl d 133 1 [l0, l1, some (.int i2), l3, l4, l5, l6, l7] [.int u0] H r ↔ Runs xs sl d 133 2 [l0, l1, some (.int i2), some (.int u0), l4, l5, l6, l7] [] H r := q_istore_n (mo_133 1 rfl) (Nat.le_of_ble_eq_true rfl) rfl rfl
theorem r133_2 : Runs xs sl d 133 2 [l0, l1, l2, l3, l4, l5, l6, l7] [] H r ↔ Runs xs sl d 133 3 [l0, l1, l2, l3, l4, l5, l6, l7] [.int 0] H r := q_iconst (mo_133 2 rfl) rfl rfl
theorem r133_3 : Runs xs sl d 133 3 [l0, l1, l2, some (.int i3), l4, l5, l6, l7] [.int u0] H r ↔ Runs xs sl d 133 5 [l0, l1, l2, some (.int i3), some (.int u0), l5, l6, l7] [] H r := q_istore (mo_133 3 rfl) (Nat.le_of_ble_eq_true rfl) rfl rfl
theorem r133_5 : Runs xs sl d 133 5 [l0, l1, l2, l3, some (.int i4), l5, l6, l7] [] H r ↔ Runs xs sl d 133 7 [l0, l1, l2, l3, some (.int i4), l5, l6, l7] [.int i4] H r := q_iload (mo_133 5 rfl) rfl rfl
theorem r133_7 : Runs xs sl d 133 7 [some (.ref a0), l1, l2, l3, l4, l5, l6, l7] [s0] H r ↔ Runs xs sl d 133 8 [some (.ref a0), l1, l2, l3, l4, l5, l6, l7] [.ref a0, s0] H r := q_aload_n (mo_133 7 rfl) rfl rfl
theorem r133_8 : Runs xs sl d 133 8 [l0, l1, l2, l3, l4, l5, l6, l7] [.ref b1, s0] H r ↔ ∃ v, hO H b1 6 0 = some v ∧ Runs xs sl d 133 11 [l0, l1, l2, l3, l4, l5, l6, l7] [v, s0] H r := q_getf (mo_133 8 rfl) mow_133 rfl rfl
theorem r133_11 : Runs xs sl d 133 11 [l0, l1, l2, l3, l4, l5, l6, l7] [.ref b1, s0] H r ↔ ∃ v, hO H b1 8 0 = some v ∧ Runs xs sl d 133 14 [l0, l1, l2, l3, l4, l5, l6, l7] [v, s0] H r := q_getf (mo_133 11 rfl) mow_133 rfl rfl
theorem r133_14 : Runs xs sl d 133 14 [l0, l1, l2, l3, l4, l5, l6, l7] [.int u1, .int u0] H r ↔ if u1 ≤ u0 then Runs xs sl d 133 95 [l0, l1, l2, l3, l4, l5, l6, l7] [] H r else Runs xs sl d 133 17 [l0, l1, l2, l3, l4, l5, l6, l7] [] H r := q_icmp_ge (mo_133 14 rfl) rfl rfl
theorem r133_17 : Runs xs sl d 133 17 [l0, l1, l2, l3, l4, l5, l6, l7] [] H r ↔ Runs xs sl d 133 18 [l0, l1, l2, l3, l4, l5, l6, l7] [.int 0] H r := q_iconst (mo_133 17 rfl) rfl rfl
theorem r133_18 : Runs xs sl d 133 18 [l0, l1, l2, l3, some (.int i4), l5, l6, l7] [.int u0] H r ↔ Runs xs sl d 133 20 [l0, l1, l2, l3, some (.int i4), some (.int u0), l6, l7] [] H r := q_istore (mo_133 18 rfl) (Nat.le_of_ble_eq_true rfl) rfl rfl
theorem r133_20 : Runs xs sl d 133 20 [l0, l1, l2, l3, l4, l5, l6, l7] [] H r ↔ Runs xs sl d 133 21 [l0, l1, l2, l3, l4, l5, l6, l7] [.int 0] H r := q_iconst (mo_133 20 rfl) rfl rfl
theorem r133_21 : Runs xs sl d 133 21 [l0, l1, l2, l3, l4, some (.int i5), l6, l7] [.int u0] H r ↔ Runs xs sl d 133 23 [l0, l1, l2, l3, l4, some (.int i5), some (.int u0), l7] [] H r := q_istore (mo_133 21 rfl) (Nat.le_of_ble_eq_true rfl) rfl rfl
theorem r133_23 : Runs xs sl d 133 23 [l0, l1, l2, l3, l4, l5, l6, l7] [] H r ↔ Runs xs sl d 133 24 [l0, l1, l2, l3, l4, l5, l6, l7] [.int 0] H r := q_iconst (mo_133 23 rfl) rfl rfl
theorem r133_24 : Runs xs sl d 133 24 [l0, l1, l2, l3, l4, l5, some (.int i6), l7] [.int u0] H r ↔ Runs xs sl d 133 26 [l0, l1, l2, l3, l4, l5, some (.int i6), some (.int u0)] [] H r := q_istore (mo_133 24 rfl) (Nat.le_of_ble_eq_true rfl) rfl rfl
theorem r133_26 : Runs xs sl d 133 26 [l0, l1, l2, l3, l4, l5, l6, some (.int i7)] [] H r ↔ Runs xs sl d 133 28 [l0, l1, l2, l3, l4, l5, l6, some (.int i7)] [.int i7] H r := q_iload (mo_133 26 rfl) rfl rfl
theorem r133_28 : Runs xs sl d 133 28 [l0, l1, some (.int i2), l3, l4, l5, l6, l7] [s0] H r ↔ Runs xs sl d 133 29 [l0, l1, some (.int i2), l3, l4, l5, l6, l7] [.int i2, s0] H r := q_iload_n (mo_133 28 rfl) rfl rfl
theorem r133_29 : Runs xs sl d 133 29 [l0, l1, l2, l3, l4, l5, l6, l7] [.int u1, .int u0] H r ↔ if u1 ≤ u0 then Runs xs sl d 133 72 [l0, l1, l2, l3, l4, l5, l6, l7] [] H r else Runs xs sl d 133 32 [l0, l1, l2, l3, l4, l5, l6, l7] [] H r := q_icmp_ge (mo_133 29 rfl) rfl rfl
theorem r133_32 : Runs xs sl d 133 32 [l0, l1, l2, l3, l4, some (.int i5), l6, l7] [] H r ↔ Runs xs sl d 133 34 [l0, l1, l2, l3, l4, some (.int i5), l6, l7] [.int i5] H r := q_iload (mo_133 32 rfl) rfl rfl
theorem r133_34 : Runs xs sl d 133 34 [l0, some (.ref a1), l2, l3, l4, l5, l6, l7] [s0] H r ↔ Runs xs sl d 133 35 [l0, some (.ref a1), l2, l3, l4, l5, l6, l7] [.ref a1, s0] H r := q_aload_n (mo_133 34 rfl) rfl rfl
theorem r133_34n : Runs xs sl d 133 34 [l0, some .null, l2, l3, l4, l5, l6, l7] [s0] H r ↔ Runs xs sl d 133 35 [l0, some .null, l2, l3, l4, l5, l6, l7] [.null, s0] H r := q_aload_nN (mo_133 34 rfl) rfl rfl
theorem r133_35 : Runs xs sl d 133 35 [l0, l1, l2, l3, l4, l5, l6, some (.int i7)] [s1, s0] H r ↔ Runs xs sl d 133 37 [l0, l1, l2, l3, l4, l5, l6, some (.int i7)] [.int i7, s1, s0] H r := q_iload (mo_133 35 rfl) rfl rfl
theorem r133_37 : Runs xs sl d 133 37 [l0, l1, l2, l3, l4, l5, l6, l7] [s2, s1, s0] H r ↔ Runs xs sl d 133 39 [l0, l1, l2, l3, l4, l5, l6, l7] [.int 6, s2, s1, s0] H r := q_bipush (mo_133 37 rfl) rfl rfl
theorem r133_39 : Runs xs sl d 133 39 [l0, l1, l2, l3, l4, l5, l6, l7] [.int u3, .int u2, s1, s0] H r ↔ Runs xs sl d 133 40 [l0, l1, l2, l3, l4, l5, l6, l7] [.int (u2 * u3), s1, s0] H r := q_imul (mo_133 39 rfl) rfl
theorem r133_40 : Runs xs sl d 133 40 [l0, l1, l2, l3, some (.int i4), l5, l6, l7] [s2, s1, s0] H r ↔ Runs xs sl d 133 42 [l0, l1, l2, l3, some (.int i4), l5, l6, l7] [.int i4, s2, s1, s0] H r := q_iload (mo_133 40 rfl) rfl rfl
theorem r133_42 : Runs xs sl d 133 42 [l0, l1, l2, l3, l4, l5, l6, l7] [.int u3, .int u2, s1, s0] H r ↔ Runs xs sl d 133 43 [l0, l1, l2, l3, l4, l5, l6, l7] [.int (u2 + u3), s1, s0] H r := q_iadd (mo_133 42 rfl) rfl
theorem r133_43 : Runs xs sl d 133 43 [l0, l1, l2, l3, l4, l5, l6, l7] [.int u2, .ref b1, s0] H r ↔ ∃ v, hA H b1 0 u2 = some v ∧ Runs xs sl d 133 44 [l0, l1, l2, l3, l4, l5, l6, l7] [.int v, s0] H r := run_iald (mo_133 43 rfl) rfl
theorem r133_44 : Runs xs sl (d + 1) 133 44 [l0, l1, l2, l3, l4, l5, l6, l7] [.int u1, .int u0] H r ↔ Runs xs sl (d + 1) 133 47 [l0, l1, l2, l3, l4, l5, l6, l7] [.int (if u1 < u0 then u1 else u0)] H r := q_mmin (mo_133 44 rfl) mow_133 rfl (Nat.le_of_ble_eq_true rfl) rfl
theorem r133_47 : Runs xs sl d 133 47 [l0, l1, l2, l3, some (.int i4), l5, l6, l7] [.int u0] H r ↔ Runs xs sl d 133 49 [l0, l1, l2, l3, some (.int i4), some (.int u0), l6, l7] [] H r := q_istore (mo_133 47 rfl) (Nat.le_of_ble_eq_true rfl) rfl rfl
theorem r133_49 : Runs xs sl d 133 49 [l0, l1, l2, l3, l4, l5, some (.int i6), l7] [] H r ↔ Runs xs sl d 133 51 [l0, l1, l2, l3, l4, l5, some (.int i6), l7] [.int i6] H r := q_iload (mo_133 49 rfl) rfl rfl
theorem r133_51 : Runs xs sl d 133 51 [l0, some (.ref a1), l2, l3, l4, l5, l6, l7] [s0] H r ↔ Runs xs sl d 133 52 [l0, some (.ref a1), l2, l3, l4, l5, l6, l7] [.ref a1, s0] H r := q_aload_n (mo_133 51 rfl) rfl rfl
theorem r133_51n : Runs xs sl d 133 51 [l0, some .null, l2, l3, l4, l5, l6, l7] [s0] H r ↔ Runs xs sl d 133 52 [l0, some .null, l2, l3, l4, l5, l6, l7] [.null, s0] H r := q_aload_nN (mo_133 51 rfl) rfl rfl
theorem r133_52 : Runs xs sl d 133 52 [l0, l1, l2, l3, l4, l5, l6, some (.int i7)] [s1, s0] H r ↔ Runs xs sl d 133 54 [l0, l1, l2, l3, l4, l5, l6, some (.int i7)] [.int i7, s1, s0] H r := q_iload (mo_133 52 rfl) rfl rfl
theorem r133_54 : Runs xs sl d 133 54 [l0, l1, l2, l3, l4, l5, l6, l7] [s2, s1, s0] H r ↔ Runs xs sl d 133 56 [l0, l1, l2, l3, l4, l5, l6, l7] [.int 6, s2, s1, s0] H r := q_bipush (mo_133 54 rfl) rfl rfl
theorem r133_56 : Runs xs sl d 133 56 [l0, l1, l2, l3, l4, l5, l6, l7] [.int u3, .int u2, s1, s0] H r ↔ Runs xs sl d 133 57 [l0, l1, l2, l3, l4, l5, l6, l7] [.int (u2 * u3), s1, s0] H r := q_imul (mo_133 56 rfl) rfl
theorem r133_57 : Runs xs sl d 133 57 [l0, l1, l2, l3, some (.int i4), l5, l6, l7] [s2, s1, s0] H r ↔ Runs xs sl d 133 59 [l0, l1, l2, l3, some (.int i4), l5, l6, l7] [.int i4, s2, s1, s0] H r := q_iload (mo_133 57 rfl) rfl rfl
theorem r133_59 : Runs xs sl d 133 59 [l0, l1, l2, l3, l4, l5, l6, l7] [.int u3, .int u2, s1, s0] H r ↔ Runs xs sl d 133 60 [l0, l1, l2, l3, l4, l5, l6, l7] [.int (u2 + u3), s1, s0] H r := q_iadd (mo_133 59 rfl) rfl
theorem r133_60 : Runs xs sl d 133 60 [l0, l1, l2, l3, l4, l5, l6, l7] [.int u2, .ref b1, s0] H r ↔ ∃ v, hA H b1 0 u2 = some v ∧ Runs xs sl d 133 61 [l0, l1, l2, l3, l4, l5, l6, l7] [.int v, s0] H r := run_iald (mo_133 60 rfl) rfl
theorem r133_61 : Runs xs sl (d + 1) 133 61 [l0, l1, l2, l3, l4, l5, l6, l7] [.int u1, .int u0] H r ↔ Runs xs sl (d + 1) 133 64 [l0, l1, l2, l3, l4, l5, l6, l7] [.int (if u0 < u1 then u1 else u0)] H r := q_mmax (mo_133 61 rfl) mow_133 rfl (Nat.le_of_ble_eq_true rfl) rfl
theorem r133_64 : Runs xs sl d 133 64 [l0, l1, l2, l3, l4, some (.int i5), l6, l7] [.int u0] H r ↔ Runs xs sl d 133 66 [l0, l1, l2, l3, l4, some (.int i5), some (.int u0), l7] [] H r := q_istore (mo_133 64 rfl) (Nat.le_of_ble_eq_true rfl) rfl rfl
theorem r133_66 : Runs xs sl d 133 66 [l0, l1, l2, l3, l4, l5, some (.int i6), some (.int i7)] [] H r ↔ Runs xs sl d 133 69 [l0, l1, l2, l3, l4, l5, some (.int i6), some (.int (i7 + 1))] [] H r := q_iinc (mo_133 66 rfl) rfl (Nat.le_of_ble_eq_true rfl) rfl rfl
theorem r133_69 : Runs xs sl d 133 69 [l0, l1, l2, l3, l4, l5, l6, l7] [] H r ↔ Runs xs sl d 133 26 [l0, l1, l2, l3, l4, l5, l6, l7] [] H r := q_goto (mo_133 69 rfl) rfl
theorem r133_72 : Runs xs sl d 133 72 [l0, l1, l2, l3, l4, some (.int i5), l6, l7] [] H r ↔ Runs xs sl d 133 74 [l0, l1, l2, l3, l4, some (.int i5), l6, l7] [.int i5] H r := q_iload (mo_133 72 rfl) rfl rfl
theorem r133_74 : Runs xs sl d 133 74 [l0, l1, l2, l3, l4, l5, l6, l7] [.int u0] H r ↔ if 0 ≤ u0 then Runs xs sl d 133 89 [l0, l1, l2, l3, l4, l5, l6, l7] [] H r else Runs xs sl d 133 77 [l0, l1, l2, l3, l4, l5, l6, l7] [] H r := q_if_ge (mo_133 74 rfl) rfl rfl
theorem r133_77 : Runs xs sl d 133 77 [l0, l1, l2, l3, l4, l5, some (.int i6), l7] [] H r ↔ Runs xs sl d 133 79 [l0, l1, l2, l3, l4, l5, some (.int i6), l7] [.int i6] H r := q_iload (mo_133 77 rfl) rfl rfl
theorem r133_79 : Runs xs sl d 133 79 [l0, l1, l2, l3, l4, l5, l6, l7] [.int u0] H r ↔ if u0 ≤ 0 then Runs xs sl d 133 89 [l0, l1, l2, l3, l4, l5, l6, l7] [] H r else Runs xs sl d 133 82 [l0, l1, l2, l3, l4, l5, l6, l7] [] H r := q_if_le (mo_133 79 rfl) rfl rfl
theorem r133_82 : Runs xs sl d 133 82 [l0, l1, l2, some (.int i3), l4, l5, l6, l7] [] H r ↔ Runs xs sl d 133 83 [l0, l1, l2, some (.int i3), l4, l5, l6, l7] [.int i3] H r := q_iload_n (mo_133 82 rfl) rfl rfl
theorem r133_83 : Runs xs sl d 133 83 [l0, l1, l2, l3, l4, l5, l6, l7] [s0] H r ↔ Runs xs sl d 133 84 [l0, l1, l2, l3, l4, l5, l6, l7] [.int 1, s0] H r := q_iconst (mo_133 83 rfl) rfl rfl
theorem r133_84 : Runs xs sl d 133 84 [l0, l1, l2, l3, some (.int i4), l5, l6, l7] [s1, s0] H r ↔ Runs xs sl d 133 86 [l0, l1, l2, l3, some (.int i4), l5, l6, l7] [.int i4, s1, s0] H r := q_iload (mo_133 84 rfl) rfl rfl
theorem r133_86 : Runs xs sl d 133 86 [l0, l1, l2, l3, l4, l5, l6, l7] [.int u2, .int u1, s0] H r ↔ Runs xs sl d 133 87 [l0, l1, l2, l3, l4, l5, l6, l7] [.int (u1 <<< (u2 &&& 31)), s0] H r := q_ishl (mo_133 86 rfl) rfl
theorem r133_87 : Runs xs sl d 133 87 [l0, l1, l2, l3, l4, l5, l6, l7] [.int u1, .int u0] H r ↔ Runs xs sl d 133 88 [l0, l1, l2, l3, l4, l5, l6, l7] [.int (u0 ||| u1)] H r := q_ior (mo_133 87 rfl) rfl
theorem r133_88 : Runs xs sl d 133 88 [l0, l1, some (.int i2), l3, l4, l5, l6, l7] [.int u0] H r ↔ Runs xs sl d 133 89 [l0, l1, some (.int i2), some (.int u0), l4, l5, l6, l7] [] H r := q_istore_n (mo_133 88 rfl) (Nat.le_of_ble_eq_true rfl) rfl rfl
theorem r133_89 : Runs xs sl d 133 89 [l0, l1, l2, some (.int i3), some (.int i4), l5, l6, l7] [] H r ↔ Runs xs sl d 133 92 [l0, l1, l2, some (.int i3), some (.int (i4 + 1)), l5, l6, l7] [] H r := q_iinc (mo_133 89 rfl) rfl (Nat.le_of_ble_eq_true rfl) rfl rfl
theorem r133_92 : Runs xs sl d 133 92 [l0, l1, l2, l3, l4, l5, l6, l7] [] H r ↔ Runs xs sl d 133 5 [l0, l1, l2, l3, l4, l5, l6, l7] [] H r := q_goto (mo_133 92 rfl) rfl
theorem r133_95 : Runs xs sl d 133 95 [l0, l1, l2, some (.int i3), l4, l5, l6, l7] [] H r ↔ Runs xs sl d 133 96 [l0, l1, l2, some (.int i3), l4, l5, l6, l7] [.int i3] H r := q_iload_n (mo_133 95 rfl) rfl rfl
theorem r133_96 : Runs xs sl d 133 96 [l0, l1, l2, l3, l4, l5, l6, l7] [.int u0] H r ↔ r = (some (.int u0), H) := q_iret (mo_133 96 rfl) mrt_133
theorem r134_0 : Runs xs sl d 134 0 [l0, l1, l2, l3] [] H r ↔ Runs xs sl d 134 1 [l0, l1, l2, l3] [.int 0] H r := q_iconst (mo_134 0 rfl) rfl rfl
theorem r134_1 : Runs xs sl d 134 1 [l0, some (.int i1), l2, l3] [.int u0] H r ↔ Runs xs sl d 134 2 [l0, some (.int i1), some (.int u0), l3] [] H r := q_istore_n (mo_134 1 rfl) (Nat.le_of_ble_eq_true rfl) rfl rfl
theorem r134_2 : Runs xs sl d 134 2 [l0, l1, l2, l3] [] H r ↔ Runs xs sl d 134 3 [l0, l1, l2, l3] [.int 0] H r := q_iconst (mo_134 2 rfl) rfl rfl
theorem r134_3 : Runs xs sl d 134 3 [l0, l1, some (.int i2), l3] [.int u0] H r ↔ Runs xs sl d 134 4 [l0, l1, some (.int i2), some (.int u0)] [] H r := q_istore_n (mo_134 3 rfl) (Nat.le_of_ble_eq_true rfl) rfl rfl
theorem r134_4 : Runs xs sl d 134 4 [l0, l1, l2, some (.int i3)] [] H r ↔ Runs xs sl d 134 5 [l0, l1, l2, some (.int i3)] [.int i3] H r := q_iload_n (mo_134 4 rfl) rfl rfl
theorem r134_5 : Runs xs sl d 134 5 [some (.ref a0), l1, l2, l3] [s0] H r ↔ Runs xs sl d 134 6 [some (.ref a0), l1, l2, l3] [.ref a0, s0] H r := q_aload_n (mo_134 5 rfl) rfl rfl
theorem r134_6 : Runs xs sl d 134 6 [l0, l1, l2, l3] [.ref b1, s0] H r ↔ ∃ v, hO H b1 6 0 = some v ∧ Runs xs sl d 134 9 [l0, l1, l2, l3] [v, s0] H r := q_getf (mo_134 6 rfl) mow_134 rfl rfl
theorem r134_9 : Runs xs sl d 134 9 [l0, l1, l2, l3] [.ref b1, s0] H r ↔ ∃ v, hO H b1 8 2 = some v ∧ Runs xs sl d 134 12 [l0, l1, l2, l3] [v, s0] H r := q_getf (mo_134 9 rfl) mow_134 rfl rfl
theorem r134_12 : Runs xs sl d 134 12 [l0, l1, l2, l3] [.int u1, .int u0] H r ↔ if u1 ≤ u0 then Runs xs sl d 134 48 [l0, l1, l2, l3] [] H r else Runs xs sl d 134 15 [l0, l1, l2, l3] [] H r := q_icmp_ge (mo_134 12 rfl) rfl rfl
theorem r134_15 : Runs xs sl d 134 15 [l0, l1, some (.int i2), l3] [] H r ↔ Runs xs sl d 134 16 [l0, l1, some (.int i2), l3] [.int i2] H r := q_iload_n (mo_134 15 rfl) rfl rfl
theorem r134_16 : Runs xs sl d 134 16 [some (.ref a0), l1, l2, l3] [s0] H r ↔ Runs xs sl d 134 17 [some (.ref a0), l1, l2, l3] [.ref a0, s0] H r := q_aload_n (mo_134 16 rfl) rfl rfl
theorem r134_17 : Runs xs sl d 134 17 [l0, l1, l2, l3] [.ref b1, s0] H r ↔ ∃ v, hO H b1 6 0 = some v ∧ Runs xs sl d 134 20 [l0, l1, l2, l3] [v, s0] H r := q_getf (mo_134 17 rfl) mow_134 rfl rfl
theorem r134_20 : Runs xs sl d 134 20 [l0, l1, l2, l3] [.ref b1, s0] H r ↔ ∃ v, hO H b1 8 5 = some v ∧ Runs xs sl d 134 23 [l0, l1, l2, l3] [v, s0] H r := q_getf (mo_134 20 rfl) mow_134 rfl rfl
theorem r134_23 : Runs xs sl d 134 23 [l0, l1, l2, some (.int i3)] [s1, s0] H r ↔ Runs xs sl d 134 24 [l0, l1, l2, some (.int i3)] [.int i3, s1, s0] H r := q_iload_n (mo_134 23 rfl) rfl rfl
theorem r134_24 : Runs xs sl d 134 24 [l0, l1, l2, l3] [.int u2, .ref b1, s0] H r ↔ ∃ v, hA H b1 0 u2 = some v ∧ Runs xs sl d 134 25 [l0, l1, l2, l3] [.int v, s0] H r := run_iald (mo_134 24 rfl) rfl
theorem r134_25 : Runs xs sl d 134 25 [some (.ref a0), l1, l2, l3] [s1, s0] H r ↔ Runs xs sl d 134 26 [some (.ref a0), l1, l2, l3] [.ref a0, s1, s0] H r := q_aload_n (mo_134 25 rfl) rfl rfl
theorem r134_26 : Runs xs sl d 134 26 [l0, l1, l2, l3] [.ref b2, s1, s0] H r ↔ ∃ v, hO H b2 6 2 = some v ∧ Runs xs sl d 134 29 [l0, l1, l2, l3] [v, s1, s0] H r := q_getf (mo_134 26 rfl) mow_134 rfl rfl
theorem r134_29 : Runs xs sl d 134 29 [l0, l1, l2, some (.int i3)] [s2, s1, s0] H r ↔ Runs xs sl d 134 30 [l0, l1, l2, some (.int i3)] [.int i3, s2, s1, s0] H r := q_iload_n (mo_134 29 rfl) rfl rfl
theorem r134_30 : Runs xs sl d 134 30 [l0, l1, l2, l3] [s3, s2, s1, s0] H r ↔ Runs xs sl d 134 32 [l0, l1, l2, l3] [.int 6, s3, s2, s1, s0] H r := q_bipush (mo_134 30 rfl) rfl rfl
theorem r134_32 : Runs xs sl d 134 32 [l0, l1, l2, l3] [.int u4, .int u3, s2, s1, s0] H r ↔ Runs xs sl d 134 33 [l0, l1, l2, l3] [.int (u3 * u4), s2, s1, s0] H r := q_imul (mo_134 32 rfl) rfl
theorem r134_33 : Runs xs sl d 134 33 [l0, some (.int i1), l2, l3] [s3, s2, s1, s0] H r ↔ Runs xs sl d 134 34 [l0, some (.int i1), l2, l3] [.int i1, s3, s2, s1, s0] H r := q_iload_n (mo_134 33 rfl) rfl rfl
theorem r134_34 : Runs xs sl d 134 34 [l0, l1, l2, l3] [.int u4, .int u3, s2, s1, s0] H r ↔ Runs xs sl d 134 35 [l0, l1, l2, l3] [.int (u3 + u4), s2, s1, s0] H r := q_iadd (mo_134 34 rfl) rfl
theorem r134_35 : Runs xs sl d 134 35 [l0, l1, l2, l3] [.int u3, .ref b2, s1, s0] H r ↔ ∃ v, hA H b2 0 u3 = some v ∧ Runs xs sl d 134 36 [l0, l1, l2, l3] [.int v, s1, s0] H r := run_iald (mo_134 35 rfl) rfl
theorem r134_36 : Runs xs sl (d + 1) 134 36 [l0, l1, l2, l3] [.int u2, .int u1, .int u0] H r ↔ ∃ v H1, Runs xs sl d 286 0 [some (.int u2)] [] H (v, H1) ∧ Runs xs sl (d + 1) 134 39 [l0, l1, l2, l3] (v.toList ++ [.int u1, .int u0]) H1 r := q_callS (M' := 286) (as := [.int u2]) (rest := [.int u1, .int u0]) (mo_134 36 rfl) mow_134 rfl mmx_286 rfl (Nat.le_of_ble_eq_true rfl) (Nat.le_of_ble_eq_true rfl) rfl rfl
theorem r134_39 : Runs xs sl d 134 39 [l0, l1, l2, l3] [.int u2, .int u1, s0] H r ↔ Runs xs sl d 134 40 [l0, l1, l2, l3] [.int (u1 * u2), s0] H r := q_imul (mo_134 39 rfl) rfl
theorem r134_40 : Runs xs sl d 134 40 [l0, l1, l2, l3] [.int u1, .int u0] H r ↔ Runs xs sl d 134 41 [l0, l1, l2, l3] [.int (u0 + u1)] H r := q_iadd (mo_134 40 rfl) rfl
theorem r134_41 : Runs xs sl d 134 41 [l0, some (.int i1), l2, l3] [.int u0] H r ↔ Runs xs sl d 134 42 [l0, some (.int i1), some (.int u0), l3] [] H r := q_istore_n (mo_134 41 rfl) (Nat.le_of_ble_eq_true rfl) rfl rfl
theorem r134_42 : Runs xs sl d 134 42 [l0, l1, some (.int i2), some (.int i3)] [] H r ↔ Runs xs sl d 134 45 [l0, l1, some (.int i2), some (.int (i3 + 1))] [] H r := q_iinc (mo_134 42 rfl) rfl (Nat.le_of_ble_eq_true rfl) rfl rfl
theorem r134_45 : Runs xs sl d 134 45 [l0, l1, l2, l3] [] H r ↔ Runs xs sl d 134 4 [l0, l1, l2, l3] [] H r := q_goto (mo_134 45 rfl) rfl
theorem r134_48 : Runs xs sl d 134 48 [l0, l1, some (.int i2), l3] [] H r ↔ Runs xs sl d 134 49 [l0, l1, some (.int i2), l3] [.int i2] H r := q_iload_n (mo_134 48 rfl) rfl rfl
theorem r134_49 : Runs xs sl d 134 49 [l0, l1, l2, l3] [.int u0] H r ↔ r = (some (.int u0), H) := q_iret (mo_134 49 rfl) mrt_134
theorem r135_0 : Runs xs sl d 135 0 [l0, l1, some (.int i2), l3, l4] [] H r ↔ Runs xs sl d 135 1 [l0, l1, some (.int i2), l3, l4] [.int i2] H r := q_iload_n (mo_135 0 rfl) rfl rfl
theorem r135_1 : Runs xs sl d 135 1 [l0, l1, l2, l3, l4] [s0] H r ↔ Runs xs sl d 135 3 [l0, l1, l2, l3, l4] [.int 6, s0] H r := q_bipush (mo_135 1 rfl) rfl rfl
theorem r135_3 (h : ¬ u1 = 0) : Runs xs sl d 135 3 [l0, l1, l2, l3, l4] [.int u1, .int u0] H r ↔ Runs xs sl d 135 4 [l0, l1, l2, l3, l4] [.int (u0 / u1)] H r := q_idiv (mo_135 3 rfl) h rfl
theorem r135_4 : Runs xs sl d 135 4 [l0, l1, l2, some (.int i3), l4] [s0] H r ↔ Runs xs sl d 135 5 [l0, l1, l2, some (.int i3), l4] [.int i3, s0] H r := q_iload_n (mo_135 4 rfl) rfl rfl
theorem r135_5 : Runs xs sl d 135 5 [l0, l1, l2, l3, l4] [.int u1, .int u0] H r ↔ if u1 ≤ u0 then Runs xs sl d 135 26 [l0, l1, l2, l3, l4] [] H r else Runs xs sl d 135 8 [l0, l1, l2, l3, l4] [] H r := q_icmp_ge (mo_135 5 rfl) rfl rfl
theorem r135_8 : Runs xs sl d 135 8 [l0, l1, some (.int i2), l3, l4] [] H r ↔ Runs xs sl d 135 9 [l0, l1, some (.int i2), l3, l4] [.int i2] H r := q_iload_n (mo_135 8 rfl) rfl rfl
theorem r135_9 : Runs xs sl d 135 9 [l0, l1, l2, l3, l4] [s0] H r ↔ Runs xs sl d 135 11 [l0, l1, l2, l3, l4] [.int 6, s0] H r := q_bipush (mo_135 9 rfl) rfl rfl
theorem r135_11 (h : ¬ u1 = 0) : Runs xs sl d 135 11 [l0, l1, l2, l3, l4] [.int u1, .int u0] H r ↔ Runs xs sl d 135 12 [l0, l1, l2, l3, l4] [.int (u0 - u0 / u1 * u1)] H r := q_irem (mo_135 11 rfl) h rfl
theorem r135_12 : Runs xs sl d 135 12 [some (.ref a0), l1, l2, l3, l4] [s0] H r ↔ Runs xs sl d 135 13 [some (.ref a0), l1, l2, l3, l4] [.ref a0, s0] H r := q_aload_n (mo_135 12 rfl) rfl rfl
theorem r135_13 : Runs xs sl d 135 13 [l0, l1, l2, l3, l4] [.ref b1, s0] H r ↔ ∃ v, hO H b1 6 0 = some v ∧ Runs xs sl d 135 16 [l0, l1, l2, l3, l4] [v, s0] H r := q_getf (mo_135 13 rfl) mow_135 rfl rfl
theorem r135_16 : Runs xs sl d 135 16 [l0, l1, l2, l3, l4] [.ref b1, s0] H r ↔ ∃ v, hO H b1 8 0 = some v ∧ Runs xs sl d 135 19 [l0, l1, l2, l3, l4] [v, s0] H r := q_getf (mo_135 16 rfl) mow_135 rfl rfl
theorem r135_19 : Runs xs sl d 135 19 [l0, l1, l2, l3, l4] [.int u1, .int u0] H r ↔ if u1 ≤ u0 then Runs xs sl d 135 26 [l0, l1, l2, l3, l4] [] H r else Runs xs sl d 135 22 [l0, l1, l2, l3, l4] [] H r := q_icmp_ge (mo_135 19 rfl) rfl rfl
theorem r135_22 : Runs xs sl d 135 22 [l0, l1, l2, l3, l4] [] H r ↔ Runs xs sl d 135 23 [l0, l1, l2, l3, l4] [.int 1] H r := q_iconst (mo_135 22 rfl) rfl rfl
theorem r135_23 : Runs xs sl d 135 23 [l0, l1, l2, l3, l4] [s0] H r ↔ Runs xs sl d 135 27 [l0, l1, l2, l3, l4] [s0] H r := q_goto (mo_135 23 rfl) rfl
theorem r135_26 : Runs xs sl d 135 26 [l0, l1, l2, l3, l4] [] H r ↔ Runs xs sl d 135 27 [l0, l1, l2, l3, l4] [.int 0] H r := q_iconst (mo_135 26 rfl) rfl rfl
theorem r135_27 : Runs xs sl d 135 27 [l0, l1, l2, some (.int i3), l4] [.int u0] H r ↔ Runs xs sl d 135 29 [l0, l1, l2, some (.int i3), some (.int u0)] [] H r := q_istore (mo_135 27 rfl) (Nat.le_of_ble_eq_true rfl) rfl rfl
theorem r135_29 : Runs xs sl d 135 29 [l0, l1, l2, l3, some (.int i4)] [] H r ↔ Runs xs sl d 135 31 [l0, l1, l2, l3, some (.int i4)] [.int i4] H r := q_iload (mo_135 29 rfl) rfl rfl
theorem r135_31 : Runs xs sl d 135 31 [l0, l1, l2, l3, l4] [.int u0] H r ↔ if u0 = 0 then Runs xs sl d 135 40 [l0, l1, l2, l3, l4] [] H r else Runs xs sl d 135 34 [l0, l1, l2, l3, l4] [] H r := q_if_eq (mo_135 31 rfl) rfl rfl
theorem r135_34 : Runs xs sl d 135 34 [l0, some (.ref a1), l2, l3, l4] [] H r ↔ Runs xs sl d 135 35 [l0, some (.ref a1), l2, l3, l4] [.ref a1] H r := q_aload_n (mo_135 34 rfl) rfl rfl
theorem r135_34n : Runs xs sl d 135 34 [l0, some .null, l2, l3, l4] [] H r ↔ Runs xs sl d 135 35 [l0, some .null, l2, l3, l4] [.null] H r := q_aload_nN (mo_135 34 rfl) rfl rfl
theorem r135_35 : Runs xs sl d 135 35 [l0, l1, some (.int i2), l3, l4] [s0] H r ↔ Runs xs sl d 135 36 [l0, l1, some (.int i2), l3, l4] [.int i2, s0] H r := q_iload_n (mo_135 35 rfl) rfl rfl
theorem r135_36 : Runs xs sl d 135 36 [l0, l1, l2, l3, l4] [.int u1, .ref b0] H r ↔ ∃ v, hA H b0 0 u1 = some v ∧ Runs xs sl d 135 37 [l0, l1, l2, l3, l4] [.int v] H r := run_iald (mo_135 36 rfl) rfl
theorem r135_37 : Runs xs sl d 135 37 [l0, l1, l2, l3, l4] [s0] H r ↔ Runs xs sl d 135 43 [l0, l1, l2, l3, l4] [s0] H r := q_goto (mo_135 37 rfl) rfl
theorem r135_40 : Runs xs sl d 135 40 [l0, l1, l2, l3, l4] [] H r ↔ Runs xs sl d 135 43 [l0, l1, l2, l3, l4] [.int (-1000)] H r := q_sipush (mo_135 40 rfl) rfl rfl
theorem r135_43 : Runs xs sl d 135 43 [l0, l1, l2, l3, l4] [.int u0] H r ↔ r = (some (.int u0), H) := q_iret (mo_135 43 rfl) mrt_135
theorem r136_0 : Runs xs sl d 136 0 [some (.ref a0), l1, l2] [] H r ↔ Runs xs sl d 136 1 [some (.ref a0), l1, l2] [.ref a0] H r := q_aload_n (mo_136 0 rfl) rfl rfl
theorem r136_1 : Runs xs sl d 136 1 [l0, l1, l2] [.ref b0] H r ↔ ∃ v, hO H b0 6 0 = some v ∧ Runs xs sl d 136 4 [l0, l1, l2] [v] H r := q_getf (mo_136 1 rfl) mow_136 rfl rfl
theorem r136_4 : Runs xs sl d 136 4 [l0, some (.int i1), l2] [s0] H r ↔ Runs xs sl d 136 5 [l0, some (.int i1), l2] [.int i1, s0] H r := q_iload_n (mo_136 4 rfl) rfl rfl
theorem r136_5 (hc : hC H b0 = some 8) : Runs xs sl (d + 1) 136 5 [l0, l1, l2] [.int u1, .ref b0] H r ↔ ∃ v H1, Runs xs sl d 153 0 [some (.ref b0), some (.int u1)] [] H (v, H1) ∧ Runs xs sl (d + 1) 136 8 [l0, l1, l2] (v.toList ++ []) H1 r := q_callV (M' := 153) (as := [.int u1]) (rest := []) (mo_136 5 rfl) mow_136 rfl mcs_153 mmx_153 rfl (Nat.le_of_ble_eq_true rfl) (Nat.le_of_ble_eq_true rfl) rfl rfl hc
theorem r136_8 : Runs xs sl d 136 8 [l0, l1, l2] [.int u0] H r ↔ if u0 = 0 then Runs xs sl d 136 19 [l0, l1, l2] [] H r else Runs xs sl d 136 11 [l0, l1, l2] [] H r := q_if_eq (mo_136 8 rfl) rfl rfl
theorem r136_11 : Runs xs sl d 136 11 [l0, l1, some (.int i2)] [] H r ↔ Runs xs sl d 136 12 [l0, l1, some (.int i2)] [.int i2] H r := q_iload_n (mo_136 11 rfl) rfl rfl
theorem r136_12 : Runs xs sl d 136 12 [some (.ref a0), l1, l2] [s0] H r ↔ Runs xs sl d 136 13 [some (.ref a0), l1, l2] [.ref a0, s0] H r := q_aload_n (mo_136 12 rfl) rfl rfl
theorem r136_13 : Runs xs sl d 136 13 [l0, l1, l2] [.ref b1, s0] H r ↔ ∃ v, hO H b1 6 1 = some v ∧ Runs xs sl d 136 16 [l0, l1, l2] [v, s0] H r := q_getf (mo_136 13 rfl) mow_136 rfl rfl
theorem r136_16 : Runs xs sl d 136 16 [l0, l1, l2] [.int u1, .int u0] H r ↔ if u0 < u1 then Runs xs sl d 136 23 [l0, l1, l2] [] H r else Runs xs sl d 136 19 [l0, l1, l2] [] H r := q_icmp_lt (mo_136 16 rfl) rfl rfl
theorem r136_19 : Runs xs sl d 136 19 [l0, l1, l2] [] H r ↔ Runs xs sl d 136 22 [l0, l1, l2] [.int (-1000)] H r := q_sipush (mo_136 19 rfl) rfl rfl
theorem r136_22 : Runs xs sl d 136 22 [l0, l1, l2] [.int u0] H r ↔ r = (some (.int u0), H) := q_iret (mo_136 22 rfl) mrt_136
theorem r136_23 : Runs xs sl d 136 23 [some (.ref a0), l1, l2] [] H r ↔ Runs xs sl d 136 24 [some (.ref a0), l1, l2] [.ref a0] H r := q_aload_n (mo_136 23 rfl) rfl rfl
theorem r136_24 : Runs xs sl d 136 24 [some (.ref a0), l1, l2] [s0] H r ↔ Runs xs sl d 136 25 [some (.ref a0), l1, l2] [.ref a0, s0] H r := q_aload_n (mo_136 24 rfl) rfl rfl
theorem r136_25 : Runs xs sl d 136 25 [l0, l1, l2] [.ref b1, s0] H r ↔ ∃ v, hO H b1 6 2 = some v ∧ Runs xs sl d 136 28 [l0, l1, l2] [v, s0] H r := q_getf (mo_136 25 rfl) mow_136 rfl rfl
theorem r136_28 : Runs xs sl d 136 28 [l0, some (.int i1), l2] [s1, s0] H r ↔ Runs xs sl d 136 29 [l0, some (.int i1), l2] [.int i1, s1, s0] H r := q_iload_n (mo_136 28 rfl) rfl rfl
theorem r136_29 : Runs xs sl d 136 29 [l0, l1, l2] [s2, s1, s0] H r ↔ Runs xs sl d 136 31 [l0, l1, l2] [.int 6, s2, s1, s0] H r := q_bipush (mo_136 29 rfl) rfl rfl
theorem r136_31 : Runs xs sl d 136 31 [l0, l1, l2] [.int u3, .int u2, s1, s0] H r ↔ Runs xs sl d 136 32 [l0, l1, l2] [.int (u2 * u3), s1, s0] H r := q_imul (mo_136 31 rfl) rfl
theorem r136_32 : Runs xs sl d 136 32 [l0, l1, some (.int i2)] [s2, s1, s0] H r ↔ Runs xs sl d 136 33 [l0, l1, some (.int i2)] [.int i2, s2, s1, s0] H r := q_iload_n (mo_136 32 rfl) rfl rfl
theorem r136_33 : Runs xs sl d 136 33 [some (.ref a0), l1, l2] [s3, s2, s1, s0] H r ↔ Runs xs sl d 136 34 [some (.ref a0), l1, l2] [.ref a0, s3, s2, s1, s0] H r := q_aload_n (mo_136 33 rfl) rfl rfl
theorem r136_34 : Runs xs sl d 136 34 [l0, l1, l2] [.ref b4, s3, s2, s1, s0] H r ↔ ∃ v, hO H b4 6 0 = some v ∧ Runs xs sl d 136 37 [l0, l1, l2] [v, s3, s2, s1, s0] H r := q_getf (mo_136 34 rfl) mow_136 rfl rfl
theorem r136_37 : Runs xs sl d 136 37 [l0, l1, l2] [.ref b4, s3, s2, s1, s0] H r ↔ ∃ v, hO H b4 8 6 = some v ∧ Runs xs sl d 136 40 [l0, l1, l2] [v, s3, s2, s1, s0] H r := q_getf (mo_136 37 rfl) mow_136 rfl rfl
theorem r136_40 : Runs xs sl d 136 40 [l0, some (.int i1), l2] [s4, s3, s2, s1, s0] H r ↔ Runs xs sl d 136 41 [l0, some (.int i1), l2] [.int i1, s4, s3, s2, s1, s0] H r := q_iload_n (mo_136 40 rfl) rfl rfl
theorem r136_41 : Runs xs sl d 136 41 [l0, l1, l2] [.int u5, .ref b4, s3, s2, s1, s0] H r ↔ ∃ v, hA H b4 0 u5 = some v ∧ Runs xs sl d 136 42 [l0, l1, l2] [.int v, s3, s2, s1, s0] H r := run_iald (mo_136 41 rfl) rfl
theorem r136_42 (hc : hC H b0 = some 6) : Runs xs sl (d + 1) 136 42 [l0, l1, l2] [.int u4, .int u3, .int u2, .ref b1, .ref b0] H r ↔ ∃ v H1, Runs xs sl d 125 0 [some (.ref b0), some (.ref b1), some (.int u2), some (.int u3), some (.int u4), none, none, none, none] [] H (v, H1) ∧ Runs xs sl (d + 1) 136 45 [l0, l1, l2] (v.toList ++ []) H1 r := q_callV (M' := 125) (as := [.ref b1, .int u2, .int u3, .int u4]) (rest := []) (mo_136 42 rfl) mow_136 rfl mcs_125 mmx_125 rfl (Nat.le_of_ble_eq_true rfl) (Nat.le_of_ble_eq_true rfl) rfl rfl hc
theorem r136_45 : Runs xs sl d 136 45 [l0, l1, l2] [.int u0] H r ↔ if u0 = 0 then Runs xs sl d 136 52 [l0, l1, l2] [] H r else Runs xs sl d 136 48 [l0, l1, l2] [] H r := q_if_eq (mo_136 45 rfl) rfl rfl
theorem r136_48 : Runs xs sl d 136 48 [l0, l1, l2] [] H r ↔ Runs xs sl d 136 49 [l0, l1, l2] [.int 1] H r := q_iconst (mo_136 48 rfl) rfl rfl
theorem r136_49 : Runs xs sl d 136 49 [l0, l1, l2] [s0] H r ↔ Runs xs sl d 136 53 [l0, l1, l2] [s0] H r := q_goto (mo_136 49 rfl) rfl
theorem r136_52 : Runs xs sl d 136 52 [l0, l1, l2] [] H r ↔ Runs xs sl d 136 53 [l0, l1, l2] [.int 0] H r := q_iconst (mo_136 52 rfl) rfl rfl
theorem r136_53 : Runs xs sl d 136 53 [l0, l1, l2] [.int u0] H r ↔ r = (some (.int u0), H) := q_iret (mo_136 53 rfl) mrt_136
theorem r137_0 : Runs xs sl d 137 0 [some (.ref a0), l1, l2] [] H r ↔ Runs xs sl d 137 1 [some (.ref a0), l1, l2] [.ref a0] H r := q_aload_n (mo_137 0 rfl) rfl rfl
theorem r137_1 (hc : hC H b0 = some 6) : Runs xs sl (d + 1) 137 1 [l0, l1, l2] [.ref b0] H r ↔ ∃ v H1, Runs xs sl d 138 0 [some (.ref b0), none, none] [] H (v, H1) ∧ Runs xs sl (d + 1) 137 4 [l0, l1, l2] (v.toList ++ []) H1 r := q_callV (M' := 138) (as := []) (rest := []) (mo_137 1 rfl) mow_137 rfl mcs_138 mmx_138 rfl (Nat.le_of_ble_eq_true rfl) (Nat.le_of_ble_eq_true rfl) rfl rfl hc
theorem r137_4 : Runs xs sl d 137 4 [l0, l1, l2] [] H r ↔ Runs xs sl d 137 5 [l0, l1, l2] [.int 0] H r := q_iconst (mo_137 4 rfl) rfl rfl
theorem r137_5 : Runs xs sl d 137 5 [some (.ref a0), l1, l2] [.int u0] H r ↔ Runs xs sl d 137 6 [some (.ref a0), some (.int u0), l2] [] H r := q_istore_n (mo_137 5 rfl) (Nat.le_of_ble_eq_true rfl) rfl rfl
theorem r137_5_1 : Runs xs sl d 137 5 [some .null, l1, l2] [.int u0] H r ↔ Runs xs sl d 137 6 [some .null, some (.int u0), l2] [] H r := q_istore_n (mo_137 5 rfl) (Nat.le_of_ble_eq_true rfl) rfl rfl
theorem r137_6 : Runs xs sl d 137 6 [l0, l1, l2] [] H r ↔ Runs xs sl d 137 7 [l0, l1, l2] [.int 1] H r := q_iconst (mo_137 6 rfl) rfl rfl
theorem r137_7 : Runs xs sl d 137 7 [l0, some (.int i1), l2] [.int u0] H r ↔ Runs xs sl d 137 8 [l0, some (.int i1), some (.int u0)] [] H r := q_istore_n (mo_137 7 rfl) (Nat.le_of_ble_eq_true rfl) rfl rfl
theorem r137_8 : Runs xs sl d 137 8 [l0, l1, some (.int i2)] [] H r ↔ Runs xs sl d 137 9 [l0, l1, some (.int i2)] [.int i2] H r := q_iload_n (mo_137 8 rfl) rfl rfl
theorem r137_9 : Runs xs sl d 137 9 [l0, l1, l2] [s0] H r ↔ Runs xs sl d 137 10 [l0, l1, l2] [.int 1, s0] H r := q_iconst (mo_137 9 rfl) rfl rfl
theorem r137_10 : Runs xs sl d 137 10 [some (.ref a0), l1, l2] [s1, s0] H r ↔ Runs xs sl d 137 11 [some (.ref a0), l1, l2] [.ref a0, s1, s0] H r := q_aload_n (mo_137 10 rfl) rfl rfl
theorem r137_11 : Runs xs sl d 137 11 [l0, l1, l2] [.ref b2, s1, s0] H r ↔ ∃ v, hO H b2 6 1 = some v ∧ Runs xs sl d 137 14 [l0, l1, l2] [v, s1, s0] H r := q_getf (mo_137 11 rfl) mow_137 rfl rfl
theorem r137_14 : Runs xs sl d 137 14 [l0, l1, l2] [.int u2, .int u1, s0] H r ↔ Runs xs sl d 137 15 [l0, l1, l2] [.int (u1 <<< (u2 &&& 31)), s0] H r := q_ishl (mo_137 14 rfl) rfl
theorem r137_15 : Runs xs sl d 137 15 [l0, l1, l2] [.int u1, .int u0] H r ↔ if u1 ≤ u0 then Runs xs sl d 137 45 [l0, l1, l2] [] H r else Runs xs sl d 137 18 [l0, l1, l2] [] H r := q_icmp_ge (mo_137 15 rfl) rfl rfl
theorem r137_18 : Runs xs sl d 137 18 [l0, l1, some (.int i2)] [] H r ↔ Runs xs sl d 137 19 [l0, l1, some (.int i2)] [.int i2] H r := q_iload_n (mo_137 18 rfl) rfl rfl
theorem r137_19 : Runs xs sl (d + 1) 137 19 [l0, l1, l2] [.int u0] H r ↔ ∃ v H1, Runs xs sl d 287 0 [some (.int u0)] [] H (v, H1) ∧ Runs xs sl (d + 1) 137 22 [l0, l1, l2] (v.toList ++ []) H1 r := q_callS (M' := 287) (as := [.int u0]) (rest := []) (mo_137 19 rfl) mow_137 rfl mmx_287 rfl (Nat.le_of_ble_eq_true rfl) (Nat.le_of_ble_eq_true rfl) rfl rfl
theorem r137_22 : Runs xs sl d 137 22 [l0, some (.int i1), l2] [s0] H r ↔ Runs xs sl d 137 23 [l0, some (.int i1), l2] [.int i1, s0] H r := q_iload_n (mo_137 22 rfl) rfl rfl
theorem r137_23 : Runs xs sl (d + 1) 137 23 [l0, l1, l2] [.int u1, .int u0] H r ↔ ∃ v H1, Runs xs sl d 287 0 [some (.int u1)] [] H (v, H1) ∧ Runs xs sl (d + 1) 137 26 [l0, l1, l2] (v.toList ++ [.int u0]) H1 r := q_callS (M' := 287) (as := [.int u1]) (rest := [.int u0]) (mo_137 23 rfl) mow_137 rfl mmx_287 rfl (Nat.le_of_ble_eq_true rfl) (Nat.le_of_ble_eq_true rfl) rfl rfl
theorem r137_26 : Runs xs sl d 137 26 [l0, l1, l2] [.int u1, .int u0] H r ↔ if u0 ≤ u1 then Runs xs sl d 137 39 [l0, l1, l2] [] H r else Runs xs sl d 137 29 [l0, l1, l2] [] H r := q_icmp_le (mo_137 26 rfl) rfl rfl
theorem r137_29 : Runs xs sl d 137 29 [some (.ref a0), l1, l2] [] H r ↔ Runs xs sl d 137 30 [some (.ref a0), l1, l2] [.ref a0] H r := q_aload_n (mo_137 29 rfl) rfl rfl
theorem r137_30 : Runs xs sl d 137 30 [l0, l1, some (.int i2)] [s0] H r ↔ Runs xs sl d 137 31 [l0, l1, some (.int i2)] [.int i2, s0] H r := q_iload_n (mo_137 30 rfl) rfl rfl
theorem r137_31 (hc : hC H b0 = some 6) : Runs xs sl (d + 1) 137 31 [l0, l1, l2] [.int u1, .ref b0] H r ↔ ∃ v H1, Runs xs sl d 140 0 [some (.ref b0), some (.int u1), none] [] H (v, H1) ∧ Runs xs sl (d + 1) 137 34 [l0, l1, l2] (v.toList ++ []) H1 r := q_callV (M' := 140) (as := [.int u1]) (rest := []) (mo_137 31 rfl) mow_137 rfl mcs_140 mmx_140 rfl (Nat.le_of_ble_eq_true rfl) (Nat.le_of_ble_eq_true rfl) rfl rfl hc
theorem r137_34 : Runs xs sl d 137 34 [l0, l1, l2] [.int u0] H r ↔ if u0 = 0 then Runs xs sl d 137 39 [l0, l1, l2] [] H r else Runs xs sl d 137 37 [l0, l1, l2] [] H r := q_if_eq (mo_137 34 rfl) rfl rfl
theorem r137_37 : Runs xs sl d 137 37 [l0, l1, some (.int i2)] [] H r ↔ Runs xs sl d 137 38 [l0, l1, some (.int i2)] [.int i2] H r := q_iload_n (mo_137 37 rfl) rfl rfl
theorem r137_38 : Runs xs sl d 137 38 [some (.ref a0), l1, l2] [.int u0] H r ↔ Runs xs sl d 137 39 [some (.ref a0), some (.int u0), l2] [] H r := q_istore_n (mo_137 38 rfl) (Nat.le_of_ble_eq_true rfl) rfl rfl
theorem r137_38_1 : Runs xs sl d 137 38 [some .null, l1, l2] [.int u0] H r ↔ Runs xs sl d 137 39 [some .null, some (.int u0), l2] [] H r := q_istore_n (mo_137 38 rfl) (Nat.le_of_ble_eq_true rfl) rfl rfl
theorem r137_39 : Runs xs sl d 137 39 [l0, some (.int i1), some (.int i2)] [] H r ↔ Runs xs sl d 137 42 [l0, some (.int i1), some (.int (i2 + 1))] [] H r := q_iinc (mo_137 39 rfl) rfl (Nat.le_of_ble_eq_true rfl) rfl rfl
theorem r137_42 : Runs xs sl d 137 42 [l0, l1, l2] [] H r ↔ Runs xs sl d 137 8 [l0, l1, l2] [] H r := q_goto (mo_137 42 rfl) rfl
theorem r137_45 : Runs xs sl d 137 45 [l0, some (.int i1), l2] [] H r ↔ Runs xs sl d 137 46 [l0, some (.int i1), l2] [.int i1] H r := q_iload_n (mo_137 45 rfl) rfl rfl
theorem r137_46 : Runs xs sl d 137 46 [l0, l1, l2] [.int u0] H r ↔ r = (some (.int u0), H) := q_iret (mo_137 46 rfl) mrt_137
theorem r138_0 : Runs xs sl d 138 0 [l0, l1, l2] [] H r ↔ Runs xs sl d 138 1 [l0, l1, l2] [.int 0] H r := q_iconst (mo_138 0 rfl) rfl rfl
theorem r138_1 : Runs xs sl d 138 1 [some (.ref a0), l1, l2] [.int u0] H r ↔ Runs xs sl d 138 2 [some (.ref a0), some (.int u0), l2] [] H r := q_istore_n (mo_138 1 rfl) (Nat.le_of_ble_eq_true rfl) rfl rfl
theorem r138_1_1 : Runs xs sl d 138 1 [some .null, l1, l2] [.int u0] H r ↔ Runs xs sl d 138 2 [some .null, some (.int u0), l2] [] H r := q_istore_n (mo_138 1 rfl) (Nat.le_of_ble_eq_true rfl) rfl rfl
theorem r138_2 : Runs xs sl d 138 2 [l0, some (.int i1), l2] [] H r ↔ Runs xs sl d 138 3 [l0, some (.int i1), l2] [.int i1] H r := q_iload_n (mo_138 2 rfl) rfl rfl
theorem r138_3 : Runs xs sl d 138 3 [some (.ref a0), l1, l2] [s0] H r ↔ Runs xs sl d 138 4 [some (.ref a0), l1, l2] [.ref a0, s0] H r := q_aload_n (mo_138 3 rfl) rfl rfl
theorem r138_4 : Runs xs sl d 138 4 [l0, l1, l2] [.ref b1, s0] H r ↔ ∃ v, hO H b1 6 1 = some v ∧ Runs xs sl d 138 7 [l0, l1, l2] [v, s0] H r := q_getf (mo_138 4 rfl) mow_138 rfl rfl
theorem r138_7 : Runs xs sl d 138 7 [l0, l1, l2] [.int u1, .int u0] H r ↔ if u1 ≤ u0 then Runs xs sl d 138 60 [l0, l1, l2] [] H r else Runs xs sl d 138 10 [l0, l1, l2] [] H r := q_icmp_ge (mo_138 7 rfl) rfl rfl
theorem r138_10 : Runs xs sl d 138 10 [some (.ref a0), l1, l2] [] H r ↔ Runs xs sl d 138 11 [some (.ref a0), l1, l2] [.ref a0] H r := q_aload_n (mo_138 10 rfl) rfl rfl
theorem r138_11 : Runs xs sl d 138 11 [l0, l1, l2] [.ref b0] H r ↔ ∃ v, hO H b0 6 11 = some v ∧ Runs xs sl d 138 14 [l0, l1, l2] [v] H r := q_getf (mo_138 11 rfl) mow_138 rfl rfl
theorem r138_14 : Runs xs sl d 138 14 [l0, some (.int i1), l2] [s0] H r ↔ Runs xs sl d 138 15 [l0, some (.int i1), l2] [.int i1, s0] H r := q_iload_n (mo_138 14 rfl) rfl rfl
theorem r138_15 : Runs xs sl d 138 15 [l0, l1, l2] [s1, s0] H r ↔ Runs xs sl d 138 16 [l0, l1, l2] [.int 0, s1, s0] H r := q_iconst (mo_138 15 rfl) rfl rfl
theorem r138_16 : Runs xs sl d 138 16 [l0, l1, l2] [.int u2, .int u1, .ref b0] H r ↔ ∃ H1, hAw H b0 0 u1 u2 = some H1 ∧ Runs xs sl d 138 17 [l0, l1, l2] [] H1 r := run_iast (mo_138 16 rfl) rfl
theorem r138_17 : Runs xs sl d 138 17 [l0, l1, l2] [] H r ↔ Runs xs sl d 138 18 [l0, l1, l2] [.int 0] H r := q_iconst (mo_138 17 rfl) rfl rfl
theorem r138_18 : Runs xs sl d 138 18 [l0, some (.int i1), l2] [.int u0] H r ↔ Runs xs sl d 138 19 [l0, some (.int i1), some (.int u0)] [] H r := q_istore_n (mo_138 18 rfl) (Nat.le_of_ble_eq_true rfl) rfl rfl
theorem r138_19 : Runs xs sl d 138 19 [l0, l1, some (.int i2)] [] H r ↔ Runs xs sl d 138 20 [l0, l1, some (.int i2)] [.int i2] H r := q_iload_n (mo_138 19 rfl) rfl rfl
theorem r138_20 : Runs xs sl d 138 20 [some (.ref a0), l1, l2] [s0] H r ↔ Runs xs sl d 138 21 [some (.ref a0), l1, l2] [.ref a0, s0] H r := q_aload_n (mo_138 20 rfl) rfl rfl
theorem r138_21 : Runs xs sl d 138 21 [l0, l1, l2] [.ref b1, s0] H r ↔ ∃ v, hO H b1 6 1 = some v ∧ Runs xs sl d 138 24 [l0, l1, l2] [v, s0] H r := q_getf (mo_138 21 rfl) mow_138 rfl rfl
theorem r138_24 : Runs xs sl d 138 24 [l0, l1, l2] [.int u1, .int u0] H r ↔ if u1 ≤ u0 then Runs xs sl d 138 54 [l0, l1, l2] [] H r else Runs xs sl d 138 27 [l0, l1, l2] [] H r := q_icmp_ge (mo_138 24 rfl) rfl rfl
theorem r138_27 : Runs xs sl d 138 27 [some (.ref a0), l1, l2] [] H r ↔ Runs xs sl d 138 28 [some (.ref a0), l1, l2] [.ref a0] H r := q_aload_n (mo_138 27 rfl) rfl rfl
theorem r138_28 : Runs xs sl d 138 28 [l0, some (.int i1), l2] [s0] H r ↔ Runs xs sl d 138 29 [l0, some (.int i1), l2] [.int i1, s0] H r := q_iload_n (mo_138 28 rfl) rfl rfl
theorem r138_29 : Runs xs sl d 138 29 [l0, l1, some (.int i2)] [s1, s0] H r ↔ Runs xs sl d 138 30 [l0, l1, some (.int i2)] [.int i2, s1, s0] H r := q_iload_n (mo_138 29 rfl) rfl rfl
theorem r138_30 (hc : hC H b0 = some 6) : Runs xs sl (d + 1) 138 30 [l0, l1, l2] [.int u2, .int u1, .ref b0] H r ↔ ∃ v H1, Runs xs sl d 139 0 [some (.ref b0), some (.int u1), some (.int u2), none] [] H (v, H1) ∧ Runs xs sl (d + 1) 138 33 [l0, l1, l2] (v.toList ++ []) H1 r := q_callV (M' := 139) (as := [.int u1, .int u2]) (rest := []) (mo_138 30 rfl) mow_138 rfl mcs_139 mmx_139 rfl (Nat.le_of_ble_eq_true rfl) (Nat.le_of_ble_eq_true rfl) rfl rfl hc
theorem r138_33 : Runs xs sl d 138 33 [l0, l1, l2] [.int u0] H r ↔ if u0 = 0 then Runs xs sl d 138 48 [l0, l1, l2] [] H r else Runs xs sl d 138 36 [l0, l1, l2] [] H r := q_if_eq (mo_138 33 rfl) rfl rfl
theorem r138_36 : Runs xs sl d 138 36 [some (.ref a0), l1, l2] [] H r ↔ Runs xs sl d 138 37 [some (.ref a0), l1, l2] [.ref a0] H r := q_aload_n (mo_138 36 rfl) rfl rfl
theorem r138_37 : Runs xs sl d 138 37 [l0, l1, l2] [.ref b0] H r ↔ ∃ v, hO H b0 6 11 = some v ∧ Runs xs sl d 138 40 [l0, l1, l2] [v] H r := q_getf (mo_138 37 rfl) mow_138 rfl rfl
theorem r138_40 : Runs xs sl d 138 40 [l0, some (.int i1), l2] [s0] H r ↔ Runs xs sl d 138 41 [l0, some (.int i1), l2] [.int i1, s0] H r := q_iload_n (mo_138 40 rfl) rfl rfl
theorem r138_41 : Runs xs sl d 138 41 [l0, l1, l2] [.int u1, .ref b0] H r ↔ Runs xs sl d 138 42 [l0, l1, l2] [.int u1, .ref b0, .int u1, .ref b0] H r := q_dup2 (mo_138 41 rfl) rfl rfl rfl
theorem r138_42 : Runs xs sl d 138 42 [l0, l1, l2] [.int u3, .ref b2, s1, s0] H r ↔ ∃ v, hA H b2 0 u3 = some v ∧ Runs xs sl d 138 43 [l0, l1, l2] [.int v, s1, s0] H r := run_iald (mo_138 42 rfl) rfl
theorem r138_43 : Runs xs sl d 138 43 [l0, l1, l2] [s2, s1, s0] H r ↔ Runs xs sl d 138 44 [l0, l1, l2] [.int 1, s2, s1, s0] H r := q_iconst (mo_138 43 rfl) rfl rfl
theorem r138_44 : Runs xs sl d 138 44 [l0, l1, some (.int i2)] [s3, s2, s1, s0] H r ↔ Runs xs sl d 138 45 [l0, l1, some (.int i2)] [.int i2, s3, s2, s1, s0] H r := q_iload_n (mo_138 44 rfl) rfl rfl
theorem r138_45 : Runs xs sl d 138 45 [l0, l1, l2] [.int u4, .int u3, s2, s1, s0] H r ↔ Runs xs sl d 138 46 [l0, l1, l2] [.int (u3 <<< (u4 &&& 31)), s2, s1, s0] H r := q_ishl (mo_138 45 rfl) rfl
theorem r138_46 : Runs xs sl d 138 46 [l0, l1, l2] [.int u3, .int u2, s1, s0] H r ↔ Runs xs sl d 138 47 [l0, l1, l2] [.int (u2 ||| u3), s1, s0] H r := q_ior (mo_138 46 rfl) rfl
theorem r138_47 : Runs xs sl d 138 47 [l0, l1, l2] [.int u2, .int u1, .ref b0] H r ↔ ∃ H1, hAw H b0 0 u1 u2 = some H1 ∧ Runs xs sl d 138 48 [l0, l1, l2] [] H1 r := run_iast (mo_138 47 rfl) rfl
theorem r138_48 : Runs xs sl d 138 48 [l0, some (.int i1), some (.int i2)] [] H r ↔ Runs xs sl d 138 51 [l0, some (.int i1), some (.int (i2 + 1))] [] H r := q_iinc (mo_138 48 rfl) rfl (Nat.le_of_ble_eq_true rfl) rfl rfl
theorem r138_51 : Runs xs sl d 138 51 [l0, l1, l2] [] H r ↔ Runs xs sl d 138 19 [l0, l1, l2] [] H r := q_goto (mo_138 51 rfl) rfl
theorem r138_54 : Runs xs sl d 138 54 [some (.ref a0), some (.int i1), l2] [] H r ↔ Runs xs sl d 138 57 [some (.ref a0), some (.int (i1 + 1)), l2] [] H r := q_iinc (mo_138 54 rfl) rfl (Nat.le_of_ble_eq_true rfl) rfl rfl
theorem r138_54_1 : Runs xs sl d 138 54 [some .null, some (.int i1), l2] [] H r ↔ Runs xs sl d 138 57 [some .null, some (.int (i1 + 1)), l2] [] H r := q_iinc (mo_138 54 rfl) rfl (Nat.le_of_ble_eq_true rfl) rfl rfl
theorem r138_57 : Runs xs sl d 138 57 [l0, l1, l2] [] H r ↔ Runs xs sl d 138 2 [l0, l1, l2] [] H r := q_goto (mo_138 57 rfl) rfl
theorem r138_60 : Runs xs sl d 138 60 [l0, l1, l2] [] H r ↔ r = (none, H) := q_ret (mo_138 60 rfl) mrt_138
theorem r139_0 : Runs xs sl d 139 0 [l0, l1, l2, l3] [] H r ↔ Runs xs sl d 139 1 [l0, l1, l2, l3] [.int 0] H r := q_iconst (mo_139 0 rfl) rfl rfl
theorem r139_1 : Runs xs sl d 139 1 [l0, l1, some (.int i2), l3] [.int u0] H r ↔ Runs xs sl d 139 2 [l0, l1, some (.int i2), some (.int u0)] [] H r := q_istore_n (mo_139 1 rfl) (Nat.le_of_ble_eq_true rfl) rfl rfl
theorem r139_2 : Runs xs sl d 139 2 [l0, l1, l2, some (.int i3)] [] H r ↔ Runs xs sl d 139 3 [l0, l1, l2, some (.int i3)] [.int i3] H r := q_iload_n (mo_139 2 rfl) rfl rfl
theorem r139_3 : Runs xs sl d 139 3 [some (.ref a0), l1, l2, l3] [s0] H r ↔ Runs xs sl d 139 4 [some (.ref a0), l1, l2, l3] [.ref a0, s0] H r := q_aload_n (mo_139 3 rfl) rfl rfl
theorem r139_4 : Runs xs sl d 139 4 [l0, l1, l2, l3] [.ref b1, s0] H r ↔ ∃ v, hO H b1 6 0 = some v ∧ Runs xs sl d 139 7 [l0, l1, l2, l3] [v, s0] H r := q_getf (mo_139 4 rfl) mow_139 rfl rfl
theorem r139_7 : Runs xs sl d 139 7 [l0, l1, l2, l3] [.ref b1, s0] H r ↔ ∃ v, hO H b1 8 0 = some v ∧ Runs xs sl d 139 10 [l0, l1, l2, l3] [v, s0] H r := q_getf (mo_139 7 rfl) mow_139 rfl rfl
theorem r139_10 : Runs xs sl d 139 10 [l0, l1, l2, l3] [.int u1, .int u0] H r ↔ if u1 ≤ u0 then Runs xs sl d 139 47 [l0, l1, l2, l3] [] H r else Runs xs sl d 139 13 [l0, l1, l2, l3] [] H r := q_icmp_ge (mo_139 10 rfl) rfl rfl
theorem r139_13 : Runs xs sl d 139 13 [some (.ref a0), l1, l2, l3] [] H r ↔ Runs xs sl d 139 14 [some (.ref a0), l1, l2, l3] [.ref a0] H r := q_aload_n (mo_139 13 rfl) rfl rfl
theorem r139_14 : Runs xs sl d 139 14 [l0, l1, l2, l3] [.ref b0] H r ↔ ∃ v, hO H b0 6 3 = some v ∧ Runs xs sl d 139 17 [l0, l1, l2, l3] [v] H r := q_getf (mo_139 14 rfl) mow_139 rfl rfl
theorem r139_17 : Runs xs sl d 139 17 [l0, some (.int i1), l2, l3] [s0] H r ↔ Runs xs sl d 139 18 [l0, some (.int i1), l2, l3] [.int i1, s0] H r := q_iload_n (mo_139 17 rfl) rfl rfl
theorem r139_18 : Runs xs sl d 139 18 [l0, l1, l2, l3] [s1, s0] H r ↔ Runs xs sl d 139 20 [l0, l1, l2, l3] [.int 6, s1, s0] H r := q_bipush (mo_139 18 rfl) rfl rfl
theorem r139_20 : Runs xs sl d 139 20 [l0, l1, l2, l3] [.int u2, .int u1, s0] H r ↔ Runs xs sl d 139 21 [l0, l1, l2, l3] [.int (u1 * u2), s0] H r := q_imul (mo_139 20 rfl) rfl
theorem r139_21 : Runs xs sl d 139 21 [l0, l1, l2, some (.int i3)] [s1, s0] H r ↔ Runs xs sl d 139 22 [l0, l1, l2, some (.int i3)] [.int i3, s1, s0] H r := q_iload_n (mo_139 21 rfl) rfl rfl
theorem r139_22 : Runs xs sl d 139 22 [l0, l1, l2, l3] [.int u2, .int u1, s0] H r ↔ Runs xs sl d 139 23 [l0, l1, l2, l3] [.int (u1 + u2), s0] H r := q_iadd (mo_139 22 rfl) rfl
theorem r139_23 : Runs xs sl d 139 23 [l0, l1, l2, l3] [.int u1, .ref b0] H r ↔ ∃ v, hA H b0 0 u1 = some v ∧ Runs xs sl d 139 24 [l0, l1, l2, l3] [.int v] H r := run_iald (mo_139 23 rfl) rfl
theorem r139_24 : Runs xs sl d 139 24 [some (.ref a0), l1, l2, l3] [s0] H r ↔ Runs xs sl d 139 25 [some (.ref a0), l1, l2, l3] [.ref a0, s0] H r := q_aload_n (mo_139 24 rfl) rfl rfl
theorem r139_25 : Runs xs sl d 139 25 [l0, l1, l2, l3] [.ref b1, s0] H r ↔ ∃ v, hO H b1 6 3 = some v ∧ Runs xs sl d 139 28 [l0, l1, l2, l3] [v, s0] H r := q_getf (mo_139 25 rfl) mow_139 rfl rfl
theorem r139_28 : Runs xs sl d 139 28 [l0, l1, some (.int i2), l3] [s1, s0] H r ↔ Runs xs sl d 139 29 [l0, l1, some (.int i2), l3] [.int i2, s1, s0] H r := q_iload_n (mo_139 28 rfl) rfl rfl
theorem r139_29 : Runs xs sl d 139 29 [l0, l1, l2, l3] [s2, s1, s0] H r ↔ Runs xs sl d 139 31 [l0, l1, l2, l3] [.int 6, s2, s1, s0] H r := q_bipush (mo_139 29 rfl) rfl rfl
theorem r139_31 : Runs xs sl d 139 31 [l0, l1, l2, l3] [.int u3, .int u2, s1, s0] H r ↔ Runs xs sl d 139 32 [l0, l1, l2, l3] [.int (u2 * u3), s1, s0] H r := q_imul (mo_139 31 rfl) rfl
theorem r139_32 : Runs xs sl d 139 32 [l0, l1, l2, some (.int i3)] [s2, s1, s0] H r ↔ Runs xs sl d 139 33 [l0, l1, l2, some (.int i3)] [.int i3, s2, s1, s0] H r := q_iload_n (mo_139 32 rfl) rfl rfl
theorem r139_33 : Runs xs sl d 139 33 [l0, l1, l2, l3] [.int u3, .int u2, s1, s0] H r ↔ Runs xs sl d 139 34 [l0, l1, l2, l3] [.int (u2 + u3), s1, s0] H r := q_iadd (mo_139 33 rfl) rfl
theorem r139_34 : Runs xs sl d 139 34 [l0, l1, l2, l3] [.int u2, .ref b1, s0] H r ↔ ∃ v, hA H b1 0 u2 = some v ∧ Runs xs sl d 139 35 [l0, l1, l2, l3] [.int v, s0] H r := run_iald (mo_139 34 rfl) rfl
theorem r139_35 : Runs xs sl d 139 35 [l0, l1, l2, l3] [.int u1, .int u0] H r ↔ Runs xs sl d 139 36 [l0, l1, l2, l3] [.int (u0 * u1)] H r := q_imul (mo_139 35 rfl) rfl
theorem r139_36 : Runs xs sl d 139 36 [l0, l1, l2, l3] [.int u0] H r ↔ if 0 ≤ u0 then Runs xs sl d 139 41 [l0, l1, l2, l3] [] H r else Runs xs sl d 139 39 [l0, l1, l2, l3] [] H r := q_if_ge (mo_139 36 rfl) rfl rfl
theorem r139_39 : Runs xs sl d 139 39 [l0, l1, l2, l3] [] H r ↔ Runs xs sl d 139 40 [l0, l1, l2, l3] [.int 1] H r := q_iconst (mo_139 39 rfl) rfl rfl
theorem r139_40 (h : u0 = 0 ∨ u0 = 1) : Runs xs sl d 139 40 [l0, l1, l2, l3] [.int u0] H r ↔ r = (some (.int u0), H) := q_zret (mo_139 40 rfl) mrt_139 h
theorem r139_41 : Runs xs sl d 139 41 [l0, l1, some (.int i2), some (.int i3)] [] H r ↔ Runs xs sl d 139 44 [l0, l1, some (.int i2), some (.int (i3 + 1))] [] H r := q_iinc (mo_139 41 rfl) rfl (Nat.le_of_ble_eq_true rfl) rfl rfl
theorem r139_44 : Runs xs sl d 139 44 [l0, l1, l2, l3] [] H r ↔ Runs xs sl d 139 2 [l0, l1, l2, l3] [] H r := q_goto (mo_139 44 rfl) rfl
theorem r139_47 : Runs xs sl d 139 47 [l0, l1, l2, l3] [] H r ↔ Runs xs sl d 139 48 [l0, l1, l2, l3] [.int 0] H r := q_iconst (mo_139 47 rfl) rfl rfl
theorem r139_48 (h : u0 = 0 ∨ u0 = 1) : Runs xs sl d 139 48 [l0, l1, l2, l3] [.int u0] H r ↔ r = (some (.int u0), H) := q_zret (mo_139 48 rfl) mrt_139 h
theorem r140_0 : Runs xs sl d 140 0 [l0, l1, l2] [] H r ↔ Runs xs sl d 140 1 [l0, l1, l2] [.int 0] H r := q_iconst (mo_140 0 rfl) rfl rfl
theorem r140_1 : Runs xs sl d 140 1 [l0, some (.int i1), l2] [.int u0] H r ↔ Runs xs sl d 140 2 [l0, some (.int i1), some (.int u0)] [] H r := q_istore_n (mo_140 1 rfl) (Nat.le_of_ble_eq_true rfl) rfl rfl
theorem r140_2 : Runs xs sl d 140 2 [l0, l1, some (.int i2)] [] H r ↔ Runs xs sl d 140 3 [l0, l1, some (.int i2)] [.int i2] H r := q_iload_n (mo_140 2 rfl) rfl rfl
theorem r140_3 : Runs xs sl d 140 3 [some (.ref a0), l1, l2] [s0] H r ↔ Runs xs sl d 140 4 [some (.ref a0), l1, l2] [.ref a0, s0] H r := q_aload_n (mo_140 3 rfl) rfl rfl
theorem r140_4 : Runs xs sl d 140 4 [l0, l1, l2] [.ref b1, s0] H r ↔ ∃ v, hO H b1 6 1 = some v ∧ Runs xs sl d 140 7 [l0, l1, l2] [v, s0] H r := q_getf (mo_140 4 rfl) mow_140 rfl rfl
theorem r140_7 : Runs xs sl d 140 7 [l0, l1, l2] [.int u1, .int u0] H r ↔ if u1 ≤ u0 then Runs xs sl d 140 37 [l0, l1, l2] [] H r else Runs xs sl d 140 10 [l0, l1, l2] [] H r := q_icmp_ge (mo_140 7 rfl) rfl rfl
theorem r140_10 : Runs xs sl d 140 10 [l0, some (.int i1), l2] [] H r ↔ Runs xs sl d 140 11 [l0, some (.int i1), l2] [.int i1] H r := q_iload_n (mo_140 10 rfl) rfl rfl
theorem r140_11 : Runs xs sl d 140 11 [l0, l1, some (.int i2)] [s0] H r ↔ Runs xs sl d 140 12 [l0, l1, some (.int i2)] [.int i2, s0] H r := q_iload_n (mo_140 11 rfl) rfl rfl
theorem r140_12 : Runs xs sl d 140 12 [l0, l1, l2] [.int u1, .int u0] H r ↔ Runs xs sl d 140 13 [l0, l1, l2] [.int (u0 >>> (u1 &&& 31))] H r := q_ishr (mo_140 12 rfl) rfl
theorem r140_13 : Runs xs sl d 140 13 [l0, l1, l2] [s0] H r ↔ Runs xs sl d 140 14 [l0, l1, l2] [.int 1, s0] H r := q_iconst (mo_140 13 rfl) rfl rfl
theorem r140_14 : Runs xs sl d 140 14 [l0, l1, l2] [.int u1, .int u0] H r ↔ Runs xs sl d 140 15 [l0, l1, l2] [.int (u0 &&& u1)] H r := q_iand (mo_140 14 rfl) rfl
theorem r140_15 : Runs xs sl d 140 15 [l0, l1, l2] [.int u0] H r ↔ if u0 = 0 then Runs xs sl d 140 31 [l0, l1, l2] [] H r else Runs xs sl d 140 18 [l0, l1, l2] [] H r := q_if_eq (mo_140 15 rfl) rfl rfl
theorem r140_18 : Runs xs sl d 140 18 [some (.ref a0), l1, l2] [] H r ↔ Runs xs sl d 140 19 [some (.ref a0), l1, l2] [.ref a0] H r := q_aload_n (mo_140 18 rfl) rfl rfl
theorem r140_19 : Runs xs sl d 140 19 [l0, l1, l2] [.ref b0] H r ↔ ∃ v, hO H b0 6 11 = some v ∧ Runs xs sl d 140 22 [l0, l1, l2] [v] H r := q_getf (mo_140 19 rfl) mow_140 rfl rfl
theorem r140_22 : Runs xs sl d 140 22 [l0, l1, some (.int i2)] [s0] H r ↔ Runs xs sl d 140 23 [l0, l1, some (.int i2)] [.int i2, s0] H r := q_iload_n (mo_140 22 rfl) rfl rfl
theorem r140_23 : Runs xs sl d 140 23 [l0, l1, l2] [.int u1, .ref b0] H r ↔ ∃ v, hA H b0 0 u1 = some v ∧ Runs xs sl d 140 24 [l0, l1, l2] [.int v] H r := run_iald (mo_140 23 rfl) rfl
theorem r140_24 : Runs xs sl d 140 24 [l0, some (.int i1), l2] [s0] H r ↔ Runs xs sl d 140 25 [l0, some (.int i1), l2] [.int i1, s0] H r := q_iload_n (mo_140 24 rfl) rfl rfl
theorem r140_25 : Runs xs sl d 140 25 [l0, l1, l2] [.int u1, .int u0] H r ↔ Runs xs sl d 140 26 [l0, l1, l2] [.int (u0 &&& u1)] H r := q_iand (mo_140 25 rfl) rfl
theorem r140_26 : Runs xs sl d 140 26 [l0, l1, l2] [.int u0] H r ↔ if u0 = 0 then Runs xs sl d 140 31 [l0, l1, l2] [] H r else Runs xs sl d 140 29 [l0, l1, l2] [] H r := q_if_eq (mo_140 26 rfl) rfl rfl
theorem r140_29 : Runs xs sl d 140 29 [l0, l1, l2] [] H r ↔ Runs xs sl d 140 30 [l0, l1, l2] [.int 0] H r := q_iconst (mo_140 29 rfl) rfl rfl
theorem r140_30 (h : u0 = 0 ∨ u0 = 1) : Runs xs sl d 140 30 [l0, l1, l2] [.int u0] H r ↔ r = (some (.int u0), H) := q_zret (mo_140 30 rfl) mrt_140 h
theorem r140_31 : Runs xs sl d 140 31 [l0, some (.int i1), some (.int i2)] [] H r ↔ Runs xs sl d 140 34 [l0, some (.int i1), some (.int (i2 + 1))] [] H r := q_iinc (mo_140 31 rfl) rfl (Nat.le_of_ble_eq_true rfl) rfl rfl
theorem r140_34 : Runs xs sl d 140 34 [l0, l1, l2] [] H r ↔ Runs xs sl d 140 2 [l0, l1, l2] [] H r := q_goto (mo_140 34 rfl) rfl
theorem r140_37 : Runs xs sl d 140 37 [l0, l1, l2] [] H r ↔ Runs xs sl d 140 38 [l0, l1, l2] [.int 1] H r := q_iconst (mo_140 37 rfl) rfl rfl
theorem r140_38 (h : u0 = 0 ∨ u0 = 1) : Runs xs sl d 140 38 [l0, l1, l2] [.int u0] H r ↔ r = (some (.int u0), H) := q_zret (mo_140 38 rfl) mrt_140 h
theorem r141_0 : Runs xs sl d 141 0 [some (.ref a0)] [] H r ↔ Runs xs sl d 141 1 [some (.ref a0)] [.ref a0] H r := q_aload_n (mo_141 0 rfl) rfl rfl
theorem r141_1 : Runs xs sl d 141 1 [some (.ref a0)] [s0] H r ↔ Runs xs sl d 141 2 [some (.ref a0)] [.ref a0, s0] H r := q_aload_n (mo_141 1 rfl) rfl rfl
theorem r141_2 : Runs xs sl d 141 2 [l0] [.ref b1, s0] H r ↔ ∃ v, hO H b1 6 3 = some v ∧ Runs xs sl d 141 5 [l0] [v, s0] H r := q_getf (mo_141 2 rfl) mow_141 rfl rfl
theorem r141_5 : Runs xs sl d 141 5 [some (.ref a0)] [s1, s0] H r ↔ Runs xs sl d 141 6 [some (.ref a0)] [.ref a0, s1, s0] H r := q_aload_n (mo_141 5 rfl) rfl rfl
theorem r141_6 : Runs xs sl d 141 6 [l0] [.ref b2, s1, s0] H r ↔ ∃ v, hO H b2 6 1 = some v ∧ Runs xs sl d 141 9 [l0] [v, s1, s0] H r := q_getf (mo_141 6 rfl) mow_141 rfl rfl
theorem r141_9 (hc : hC H b0 = some 6) : Runs xs sl (d + 1) 141 9 [l0] [.int u2, .ref b1, .ref b0] H r ↔ ∃ v H1, Runs xs sl d 133 0 [some (.ref b0), some (.ref b1), some (.int u2), none, none, none, none, none] [] H (v, H1) ∧ Runs xs sl (d + 1) 141 12 [l0] (v.toList ++ []) H1 r := q_callV (M' := 133) (as := [.ref b1, .int u2]) (rest := []) (mo_141 9 rfl) mow_141 rfl mcs_133 mmx_133 rfl (Nat.le_of_ble_eq_true rfl) (Nat.le_of_ble_eq_true rfl) rfl rfl hc
theorem r141_12 : Runs xs sl d 141 12 [l0] [.int u0] H r ↔ r = (some (.int u0), H) := q_iret (mo_141 12 rfl) mrt_141
theorem r142_0 : Runs xs sl d 142 0 [some (.ref a0), l1, l2] [] H r ↔ Runs xs sl d 142 1 [some (.ref a0), l1, l2] [.ref a0] H r := q_aload_n (mo_142 0 rfl) rfl rfl
theorem r142_1 (hc : hC H b0 = some 6) : Runs xs sl (d + 1) 142 1 [l0, l1, l2] [.ref b0] H r ↔ ∃ v H1, Runs xs sl d 138 0 [some (.ref b0), none, none] [] H (v, H1) ∧ Runs xs sl (d + 1) 142 4 [l0, l1, l2] (v.toList ++ []) H1 r := q_callV (M' := 138) (as := []) (rest := []) (mo_142 1 rfl) mow_142 rfl mcs_138 mmx_138 rfl (Nat.le_of_ble_eq_true rfl) (Nat.le_of_ble_eq_true rfl) rfl rfl hc
theorem r142_4 : Runs xs sl d 142 4 [l0, l1, l2] [] H r ↔ Runs xs sl d 142 5 [l0, l1, l2] [.int 0] H r := q_iconst (mo_142 4 rfl) rfl rfl
theorem r142_5 : Runs xs sl d 142 5 [some (.ref a0), l1, l2] [.int u0] H r ↔ Runs xs sl d 142 6 [some (.ref a0), some (.int u0), l2] [] H r := q_istore_n (mo_142 5 rfl) (Nat.le_of_ble_eq_true rfl) rfl rfl
theorem r142_5_1 : Runs xs sl d 142 5 [some .null, l1, l2] [.int u0] H r ↔ Runs xs sl d 142 6 [some .null, some (.int u0), l2] [] H r := q_istore_n (mo_142 5 rfl) (Nat.le_of_ble_eq_true rfl) rfl rfl
theorem r142_6 : Runs xs sl d 142 6 [l0, l1, l2] [] H r ↔ Runs xs sl d 142 7 [l0, l1, l2] [.int 0] H r := q_iconst (mo_142 6 rfl) rfl rfl
theorem r142_7 : Runs xs sl d 142 7 [l0, some (.int i1), l2] [.int u0] H r ↔ Runs xs sl d 142 8 [l0, some (.int i1), some (.int u0)] [] H r := q_istore_n (mo_142 7 rfl) (Nat.le_of_ble_eq_true rfl) rfl rfl
theorem r142_8 : Runs xs sl d 142 8 [l0, l1, some (.int i2)] [] H r ↔ Runs xs sl d 142 9 [l0, l1, some (.int i2)] [.int i2] H r := q_iload_n (mo_142 8 rfl) rfl rfl
theorem r142_9 : Runs xs sl d 142 9 [some (.ref a0), l1, l2] [s0] H r ↔ Runs xs sl d 142 10 [some (.ref a0), l1, l2] [.ref a0, s0] H r := q_aload_n (mo_142 9 rfl) rfl rfl
theorem r142_10 : Runs xs sl d 142 10 [l0, l1, l2] [.ref b1, s0] H r ↔ ∃ v, hO H b1 6 1 = some v ∧ Runs xs sl d 142 13 [l0, l1, l2] [v, s0] H r := q_getf (mo_142 10 rfl) mow_142 rfl rfl
theorem r142_13 : Runs xs sl d 142 13 [l0, l1, l2] [.int u1, .int u0] H r ↔ if u1 ≤ u0 then Runs xs sl d 142 34 [l0, l1, l2] [] H r else Runs xs sl d 142 16 [l0, l1, l2] [] H r := q_icmp_ge (mo_142 13 rfl) rfl rfl
theorem r142_16 : Runs xs sl d 142 16 [l0, some (.int i1), l2] [] H r ↔ Runs xs sl d 142 17 [l0, some (.int i1), l2] [.int i1] H r := q_iload_n (mo_142 16 rfl) rfl rfl
theorem r142_17 : Runs xs sl d 142 17 [some (.ref a0), l1, l2] [s0] H r ↔ Runs xs sl d 142 18 [some (.ref a0), l1, l2] [.ref a0, s0] H r := q_aload_n (mo_142 17 rfl) rfl rfl
theorem r142_18 : Runs xs sl d 142 18 [l0, l1, l2] [.ref b1, s0] H r ↔ ∃ v, hO H b1 6 11 = some v ∧ Runs xs sl d 142 21 [l0, l1, l2] [v, s0] H r := q_getf (mo_142 18 rfl) mow_142 rfl rfl
theorem r142_21 : Runs xs sl d 142 21 [l0, l1, some (.int i2)] [s1, s0] H r ↔ Runs xs sl d 142 22 [l0, l1, some (.int i2)] [.int i2, s1, s0] H r := q_iload_n (mo_142 21 rfl) rfl rfl
theorem r142_22 : Runs xs sl d 142 22 [l0, l1, l2] [.int u2, .ref b1, s0] H r ↔ ∃ v, hA H b1 0 u2 = some v ∧ Runs xs sl d 142 23 [l0, l1, l2] [.int v, s0] H r := run_iald (mo_142 22 rfl) rfl
theorem r142_23 : Runs xs sl (d + 1) 142 23 [l0, l1, l2] [.int u1, .int u0] H r ↔ ∃ v H1, Runs xs sl d 287 0 [some (.int u1)] [] H (v, H1) ∧ Runs xs sl (d + 1) 142 26 [l0, l1, l2] (v.toList ++ [.int u0]) H1 r := q_callS (M' := 287) (as := [.int u1]) (rest := [.int u0]) (mo_142 23 rfl) mow_142 rfl mmx_287 rfl (Nat.le_of_ble_eq_true rfl) (Nat.le_of_ble_eq_true rfl) rfl rfl
theorem r142_26 : Runs xs sl d 142 26 [l0, l1, l2] [.int u1, .int u0] H r ↔ Runs xs sl d 142 27 [l0, l1, l2] [.int (u0 + u1)] H r := q_iadd (mo_142 26 rfl) rfl
theorem r142_27 : Runs xs sl d 142 27 [some (.ref a0), l1, l2] [.int u0] H r ↔ Runs xs sl d 142 28 [some (.ref a0), some (.int u0), l2] [] H r := q_istore_n (mo_142 27 rfl) (Nat.le_of_ble_eq_true rfl) rfl rfl
theorem r142_27_1 : Runs xs sl d 142 27 [some .null, l1, l2] [.int u0] H r ↔ Runs xs sl d 142 28 [some .null, some (.int u0), l2] [] H r := q_istore_n (mo_142 27 rfl) (Nat.le_of_ble_eq_true rfl) rfl rfl
theorem r142_28 : Runs xs sl d 142 28 [l0, some (.int i1), some (.int i2)] [] H r ↔ Runs xs sl d 142 31 [l0, some (.int i1), some (.int (i2 + 1))] [] H r := q_iinc (mo_142 28 rfl) rfl (Nat.le_of_ble_eq_true rfl) rfl rfl
theorem r142_31 : Runs xs sl d 142 31 [l0, l1, l2] [] H r ↔ Runs xs sl d 142 8 [l0, l1, l2] [] H r := q_goto (mo_142 31 rfl) rfl
theorem r142_34 : Runs xs sl d 142 34 [l0, some (.int i1), l2] [] H r ↔ Runs xs sl d 142 35 [l0, some (.int i1), l2] [.int i1] H r := q_iload_n (mo_142 34 rfl) rfl rfl
theorem r142_35 : Runs xs sl d 142 35 [l0, l1, l2] [s0] H r ↔ Runs xs sl d 142 36 [l0, l1, l2] [.int 2, s0] H r := q_iconst (mo_142 35 rfl) rfl rfl
theorem r142_36 (h : ¬ u1 = 0) : Runs xs sl d 142 36 [l0, l1, l2] [.int u1, .int u0] H r ↔ Runs xs sl d 142 37 [l0, l1, l2] [.int (u0 / u1)] H r := q_idiv (mo_142 36 rfl) h rfl
theorem r142_37 : Runs xs sl d 142 37 [l0, l1, l2] [.int u0] H r ↔ r = (some (.int u0), H) := q_iret (mo_142 37 rfl) mrt_142
theorem r143_0 : Runs xs sl d 143 0 [some (.ref a0), l1, l2, l3, l4, l5, l6] [] H r ↔ Runs xs sl d 143 1 [some (.ref a0), l1, l2, l3, l4, l5, l6] [.ref a0] H r := q_aload_n (mo_143 0 rfl) rfl rfl
theorem r143_1 : Runs xs sl d 143 1 [l0, l1, l2, l3, l4, l5, l6] [.ref b0] H r ↔ ∃ v, hO H b0 6 3 = some v ∧ Runs xs sl d 143 4 [l0, l1, l2, l3, l4, l5, l6] [v] H r := q_getf (mo_143 1 rfl) mow_143 rfl rfl
theorem r143_4 : Runs xs sl d 143 4 [l0, some (.int i1), l2, l3, l4, l5, l6] [s0] H r ↔ Runs xs sl d 143 5 [l0, some (.int i1), l2, l3, l4, l5, l6] [.int i1, s0] H r := q_iload_n (mo_143 4 rfl) rfl rfl
theorem r143_5 : Runs xs sl d 143 5 [l0, l1, l2, l3, l4, l5, l6] [s1, s0] H r ↔ Runs xs sl d 143 7 [l0, l1, l2, l3, l4, l5, l6] [.int 6, s1, s0] H r := q_bipush (mo_143 5 rfl) rfl rfl
theorem r143_7 : Runs xs sl d 143 7 [l0, l1, l2, l3, l4, l5, l6] [.int u2, .int u1, s0] H r ↔ Runs xs sl d 143 8 [l0, l1, l2, l3, l4, l5, l6] [.int (u1 * u2), s0] H r := q_imul (mo_143 7 rfl) rfl
theorem r143_8 : Runs xs sl d 143 8 [l0, l1, some (.int i2), l3, l4, l5, l6] [s1, s0] H r ↔ Runs xs sl d 143 9 [l0, l1, some (.int i2), l3, l4, l5, l6] [.int i2, s1, s0] H r := q_iload_n (mo_143 8 rfl) rfl rfl
theorem r143_9 : Runs xs sl d 143 9 [l0, l1, l2, l3, l4, l5, l6] [.int u2, .int u1, s0] H r ↔ Runs xs sl d 143 10 [l0, l1, l2, l3, l4, l5, l6] [.int (u1 + u2), s0] H r := q_iadd (mo_143 9 rfl) rfl
theorem r143_10 : Runs xs sl d 143 10 [l0, l1, l2, l3, l4, l5, l6] [.int u1, .ref b0] H r ↔ ∃ v, hA H b0 0 u1 = some v ∧ Runs xs sl d 143 11 [l0, l1, l2, l3, l4, l5, l6] [.int v] H r := run_iald (mo_143 10 rfl) rfl
theorem r143_11 : Runs xs sl (d + 1) 143 11 [l0, l1, l2, l3, l4, l5, l6] [.int u0] H r ↔ ∃ v H1, Runs xs sl d 286 0 [some (.int u0)] [] H (v, H1) ∧ Runs xs sl (d + 1) 143 14 [l0, l1, l2, l3, l4, l5, l6] (v.toList ++ []) H1 r := q_callS (M' := 286) (as := [.int u0]) (rest := []) (mo_143 11 rfl) mow_143 rfl mmx_286 rfl (Nat.le_of_ble_eq_true rfl) (Nat.le_of_ble_eq_true rfl) rfl rfl
theorem r143_14 : Runs xs sl d 143 14 [l0, l1, some (.int i2), l3, l4, l5, l6] [.int u0] H r ↔ Runs xs sl d 143 15 [l0, l1, some (.int i2), some (.int u0), l4, l5, l6] [] H r := q_istore_n (mo_143 14 rfl) (Nat.le_of_ble_eq_true rfl) rfl rfl
theorem r143_15 : Runs xs sl d 143 15 [l0, l1, l2, l3, l4, l5, l6] [] H r ↔ Runs xs sl d 143 16 [l0, l1, l2, l3, l4, l5, l6] [.int 0] H r := q_iconst (mo_143 15 rfl) rfl rfl
theorem r143_16 : Runs xs sl d 143 16 [l0, l1, l2, some (.int i3), l4, l5, l6] [.int u0] H r ↔ Runs xs sl d 143 18 [l0, l1, l2, some (.int i3), some (.int u0), l5, l6] [] H r := q_istore (mo_143 16 rfl) (Nat.le_of_ble_eq_true rfl) rfl rfl
theorem r143_18 : Runs xs sl d 143 18 [l0, l1, l2, l3, l4, l5, l6] [] H r ↔ Runs xs sl d 143 19 [l0, l1, l2, l3, l4, l5, l6] [.int 0] H r := q_iconst (mo_143 18 rfl) rfl rfl
theorem r143_19 : Runs xs sl d 143 19 [l0, l1, l2, l3, some (.int i4), l5, l6] [.int u0] H r ↔ Runs xs sl d 143 21 [l0, l1, l2, l3, some (.int i4), some (.int u0), l6] [] H r := q_istore (mo_143 19 rfl) (Nat.le_of_ble_eq_true rfl) rfl rfl
theorem r143_21 : Runs xs sl d 143 21 [l0, l1, l2, l3, l4, some (.int i5), l6] [] H r ↔ Runs xs sl d 143 23 [l0, l1, l2, l3, l4, some (.int i5), l6] [.int i5] H r := q_iload (mo_143 21 rfl) rfl rfl
theorem r143_23 : Runs xs sl d 143 23 [some (.ref a0), l1, l2, l3, l4, l5, l6] [s0] H r ↔ Runs xs sl d 143 24 [some (.ref a0), l1, l2, l3, l4, l5, l6] [.ref a0, s0] H r := q_aload_n (mo_143 23 rfl) rfl rfl
theorem r143_24 : Runs xs sl d 143 24 [l0, l1, l2, l3, l4, l5, l6] [.ref b1, s0] H r ↔ ∃ v, hO H b1 6 0 = some v ∧ Runs xs sl d 143 27 [l0, l1, l2, l3, l4, l5, l6] [v, s0] H r := q_getf (mo_143 24 rfl) mow_143 rfl rfl
theorem r143_27 : Runs xs sl d 143 27 [l0, l1, l2, l3, l4, l5, l6] [.ref b1, s0] H r ↔ ∃ v, hO H b1 8 2 = some v ∧ Runs xs sl d 143 30 [l0, l1, l2, l3, l4, l5, l6] [v, s0] H r := q_getf (mo_143 27 rfl) mow_143 rfl rfl
theorem r143_30 : Runs xs sl d 143 30 [l0, l1, l2, l3, l4, l5, l6] [.int u1, .int u0] H r ↔ if u1 ≤ u0 then Runs xs sl d 143 112 [l0, l1, l2, l3, l4, l5, l6] [] H r else Runs xs sl d 143 33 [l0, l1, l2, l3, l4, l5, l6] [] H r := q_icmp_ge (mo_143 30 rfl) rfl rfl
theorem r143_33 : Runs xs sl d 143 33 [some (.ref a0), l1, l2, l3, l4, l5, l6] [] H r ↔ Runs xs sl d 143 34 [some (.ref a0), l1, l2, l3, l4, l5, l6] [.ref a0] H r := q_aload_n (mo_143 33 rfl) rfl rfl
theorem r143_34 : Runs xs sl d 143 34 [l0, l1, l2, l3, l4, l5, l6] [.ref b0] H r ↔ ∃ v, hO H b0 6 2 = some v ∧ Runs xs sl d 143 37 [l0, l1, l2, l3, l4, l5, l6] [v] H r := q_getf (mo_143 34 rfl) mow_143 rfl rfl
theorem r143_37 : Runs xs sl d 143 37 [l0, l1, l2, l3, l4, some (.int i5), l6] [s0] H r ↔ Runs xs sl d 143 39 [l0, l1, l2, l3, l4, some (.int i5), l6] [.int i5, s0] H r := q_iload (mo_143 37 rfl) rfl rfl
theorem r143_39 : Runs xs sl d 143 39 [l0, l1, l2, l3, l4, l5, l6] [s1, s0] H r ↔ Runs xs sl d 143 41 [l0, l1, l2, l3, l4, l5, l6] [.int 6, s1, s0] H r := q_bipush (mo_143 39 rfl) rfl rfl
theorem r143_41 : Runs xs sl d 143 41 [l0, l1, l2, l3, l4, l5, l6] [.int u2, .int u1, s0] H r ↔ Runs xs sl d 143 42 [l0, l1, l2, l3, l4, l5, l6] [.int (u1 * u2), s0] H r := q_imul (mo_143 41 rfl) rfl
theorem r143_42 : Runs xs sl d 143 42 [l0, l1, some (.int i2), l3, l4, l5, l6] [s1, s0] H r ↔ Runs xs sl d 143 43 [l0, l1, some (.int i2), l3, l4, l5, l6] [.int i2, s1, s0] H r := q_iload_n (mo_143 42 rfl) rfl rfl
theorem r143_43 : Runs xs sl d 143 43 [l0, l1, l2, l3, l4, l5, l6] [.int u2, .int u1, s0] H r ↔ Runs xs sl d 143 44 [l0, l1, l2, l3, l4, l5, l6] [.int (u1 + u2), s0] H r := q_iadd (mo_143 43 rfl) rfl
theorem r143_44 : Runs xs sl d 143 44 [l0, l1, l2, l3, l4, l5, l6] [.int u1, .ref b0] H r ↔ ∃ v, hA H b0 0 u1 = some v ∧ Runs xs sl d 143 45 [l0, l1, l2, l3, l4, l5, l6] [.int v] H r := run_iald (mo_143 44 rfl) rfl
theorem r143_45 : Runs xs sl (d + 1) 143 45 [l0, l1, l2, l3, l4, l5, l6] [.int u0] H r ↔ ∃ v H1, Runs xs sl d 286 0 [some (.int u0)] [] H (v, H1) ∧ Runs xs sl (d + 1) 143 48 [l0, l1, l2, l3, l4, l5, l6] (v.toList ++ []) H1 r := q_callS (M' := 286) (as := [.int u0]) (rest := []) (mo_143 45 rfl) mow_143 rfl mmx_286 rfl (Nat.le_of_ble_eq_true rfl) (Nat.le_of_ble_eq_true rfl) rfl rfl
theorem r143_48 : Runs xs sl d 143 48 [l0, l1, l2, some (.int i3), l4, l5, l6] [s0] H r ↔ Runs xs sl d 143 49 [l0, l1, l2, some (.int i3), l4, l5, l6] [.int i3, s0] H r := q_iload_n (mo_143 48 rfl) rfl rfl
theorem r143_49 : Runs xs sl d 143 49 [l0, l1, l2, l3, l4, l5, l6] [.int u1, .int u0] H r ↔ if ¬ u0 = u1 then Runs xs sl d 143 56 [l0, l1, l2, l3, l4, l5, l6] [] H r else Runs xs sl d 143 52 [l0, l1, l2, l3, l4, l5, l6] [] H r := q_icmp_ne (mo_143 49 rfl) rfl rfl
theorem r143_52 : Runs xs sl d 143 52 [l0, l1, l2, l3, l4, l5, l6] [] H r ↔ Runs xs sl d 143 53 [l0, l1, l2, l3, l4, l5, l6] [.int 1] H r := q_iconst (mo_143 52 rfl) rfl rfl
theorem r143_53 : Runs xs sl d 143 53 [l0, l1, l2, l3, l4, l5, l6] [s0] H r ↔ Runs xs sl d 143 57 [l0, l1, l2, l3, l4, l5, l6] [s0] H r := q_goto (mo_143 53 rfl) rfl
theorem r143_56 : Runs xs sl d 143 56 [l0, l1, l2, l3, l4, l5, l6] [] H r ↔ Runs xs sl d 143 57 [l0, l1, l2, l3, l4, l5, l6] [.int 0] H r := q_iconst (mo_143 56 rfl) rfl rfl
theorem r143_57 : Runs xs sl d 143 57 [l0, l1, l2, l3, l4, some (.int i5), l6] [.int u0] H r ↔ Runs xs sl d 143 59 [l0, l1, l2, l3, l4, some (.int i5), some (.int u0)] [] H r := q_istore (mo_143 57 rfl) (Nat.le_of_ble_eq_true rfl) rfl rfl
theorem r143_59 : Runs xs sl d 143 59 [l0, l1, l2, l3, l4, l5, some (.int i6)] [] H r ↔ Runs xs sl d 143 61 [l0, l1, l2, l3, l4, l5, some (.int i6)] [.int i6] H r := q_iload (mo_143 59 rfl) rfl rfl
theorem r143_61 : Runs xs sl d 143 61 [l0, l1, l2, l3, l4, l5, l6] [.int u0] H r ↔ if u0 = 0 then Runs xs sl d 143 106 [l0, l1, l2, l3, l4, l5, l6] [] H r else Runs xs sl d 143 64 [l0, l1, l2, l3, l4, l5, l6] [] H r := q_if_eq (mo_143 61 rfl) rfl rfl
theorem r143_64 : Runs xs sl d 143 64 [some (.ref a0), l1, l2, l3, l4, l5, l6] [] H r ↔ Runs xs sl d 143 65 [some (.ref a0), l1, l2, l3, l4, l5, l6] [.ref a0] H r := q_aload_n (mo_143 64 rfl) rfl rfl
theorem r143_65 : Runs xs sl d 143 65 [some (.ref a0), l1, l2, l3, l4, l5, l6] [s0] H r ↔ Runs xs sl d 143 66 [some (.ref a0), l1, l2, l3, l4, l5, l6] [.ref a0, s0] H r := q_aload_n (mo_143 65 rfl) rfl rfl
theorem r143_66 : Runs xs sl d 143 66 [l0, l1, l2, l3, l4, l5, l6] [.ref b1, s0] H r ↔ ∃ v, hO H b1 6 2 = some v ∧ Runs xs sl d 143 69 [l0, l1, l2, l3, l4, l5, l6] [v, s0] H r := q_getf (mo_143 66 rfl) mow_143 rfl rfl
theorem r143_69 : Runs xs sl d 143 69 [l0, l1, l2, l3, l4, some (.int i5), l6] [s1, s0] H r ↔ Runs xs sl d 143 71 [l0, l1, l2, l3, l4, some (.int i5), l6] [.int i5, s1, s0] H r := q_iload (mo_143 69 rfl) rfl rfl
theorem r143_71 : Runs xs sl d 143 71 [l0, l1, l2, l3, l4, l5, l6] [s2, s1, s0] H r ↔ Runs xs sl d 143 73 [l0, l1, l2, l3, l4, l5, l6] [.int 6, s2, s1, s0] H r := q_bipush (mo_143 71 rfl) rfl rfl
theorem r143_73 : Runs xs sl d 143 73 [l0, l1, l2, l3, l4, l5, l6] [.int u3, .int u2, s1, s0] H r ↔ Runs xs sl d 143 74 [l0, l1, l2, l3, l4, l5, l6] [.int (u2 * u3), s1, s0] H r := q_imul (mo_143 73 rfl) rfl
theorem r143_74 : Runs xs sl d 143 74 [l0, some (.int i1), l2, l3, l4, l5, l6] [s2, s1, s0] H r ↔ Runs xs sl d 143 75 [l0, some (.int i1), l2, l3, l4, l5, l6] [.int i1, s2, s1, s0] H r := q_iload_n (mo_143 74 rfl) rfl rfl
theorem r143_75 : Runs xs sl d 143 75 [some (.ref a0), l1, l2, l3, l4, l5, l6] [s3, s2, s1, s0] H r ↔ Runs xs sl d 143 76 [some (.ref a0), l1, l2, l3, l4, l5, l6] [.ref a0, s3, s2, s1, s0] H r := q_aload_n (mo_143 75 rfl) rfl rfl
theorem r143_76 : Runs xs sl d 143 76 [l0, l1, l2, l3, l4, l5, l6] [.ref b4, s3, s2, s1, s0] H r ↔ ∃ v, hO H b4 6 0 = some v ∧ Runs xs sl d 143 79 [l0, l1, l2, l3, l4, l5, l6] [v, s3, s2, s1, s0] H r := q_getf (mo_143 76 rfl) mow_143 rfl rfl
theorem r143_79 : Runs xs sl d 143 79 [l0, l1, l2, l3, l4, l5, l6] [.ref b4, s3, s2, s1, s0] H r ↔ ∃ v, hO H b4 8 6 = some v ∧ Runs xs sl d 143 82 [l0, l1, l2, l3, l4, l5, l6] [v, s3, s2, s1, s0] H r := q_getf (mo_143 79 rfl) mow_143 rfl rfl
theorem r143_82 : Runs xs sl d 143 82 [l0, l1, l2, l3, l4, some (.int i5), l6] [s4, s3, s2, s1, s0] H r ↔ Runs xs sl d 143 84 [l0, l1, l2, l3, l4, some (.int i5), l6] [.int i5, s4, s3, s2, s1, s0] H r := q_iload (mo_143 82 rfl) rfl rfl
theorem r143_84 : Runs xs sl d 143 84 [l0, l1, l2, l3, l4, l5, l6] [.int u5, .ref b4, s3, s2, s1, s0] H r ↔ ∃ v, hA H b4 0 u5 = some v ∧ Runs xs sl d 143 85 [l0, l1, l2, l3, l4, l5, l6] [.int v, s3, s2, s1, s0] H r := run_iald (mo_143 84 rfl) rfl
theorem r143_85 (hc : hC H b0 = some 6) : Runs xs sl (d + 1) 143 85 [l0, l1, l2, l3, l4, l5, l6] [.int u4, .int u3, .int u2, .ref b1, .ref b0] H r ↔ ∃ v H1, Runs xs sl d 125 0 [some (.ref b0), some (.ref b1), some (.int u2), some (.int u3), some (.int u4), none, none, none, none] [] H (v, H1) ∧ Runs xs sl (d + 1) 143 88 [l0, l1, l2, l3, l4, l5, l6] (v.toList ++ []) H1 r := q_callV (M' := 125) (as := [.ref b1, .int u2, .int u3, .int u4]) (rest := []) (mo_143 85 rfl) mow_143 rfl mcs_125 mmx_125 rfl (Nat.le_of_ble_eq_true rfl) (Nat.le_of_ble_eq_true rfl) rfl rfl hc
theorem r143_88 : Runs xs sl d 143 88 [l0, l1, l2, l3, l4, l5, l6] [.int u0] H r ↔ if u0 = 0 then Runs xs sl d 143 106 [l0, l1, l2, l3, l4, l5, l6] [] H r else Runs xs sl d 143 91 [l0, l1, l2, l3, l4, l5, l6] [] H r := q_if_eq (mo_143 88 rfl) rfl rfl
theorem r143_91 : Runs xs sl d 143 91 [l0, l1, l2, l3, some (.int i4), l5, l6] [] H r ↔ Runs xs sl d 143 93 [l0, l1, l2, l3, some (.int i4), l5, l6] [.int i4] H r := q_iload (mo_143 91 rfl) rfl rfl
theorem r143_93 : Runs xs sl d 143 93 [some (.ref a0), l1, l2, l3, l4, l5, l6] [s0] H r ↔ Runs xs sl d 143 94 [some (.ref a0), l1, l2, l3, l4, l5, l6] [.ref a0, s0] H r := q_aload_n (mo_143 93 rfl) rfl rfl
theorem r143_94 : Runs xs sl d 143 94 [l0, l1, l2, l3, l4, l5, l6] [.ref b1, s0] H r ↔ ∃ v, hO H b1 6 0 = some v ∧ Runs xs sl d 143 97 [l0, l1, l2, l3, l4, l5, l6] [v, s0] H r := q_getf (mo_143 94 rfl) mow_143 rfl rfl
theorem r143_97 : Runs xs sl d 143 97 [l0, l1, l2, l3, l4, l5, l6] [.ref b1, s0] H r ↔ ∃ v, hO H b1 8 5 = some v ∧ Runs xs sl d 143 100 [l0, l1, l2, l3, l4, l5, l6] [v, s0] H r := q_getf (mo_143 97 rfl) mow_143 rfl rfl
theorem r143_100 : Runs xs sl d 143 100 [l0, l1, l2, l3, l4, some (.int i5), l6] [s1, s0] H r ↔ Runs xs sl d 143 102 [l0, l1, l2, l3, l4, some (.int i5), l6] [.int i5, s1, s0] H r := q_iload (mo_143 100 rfl) rfl rfl
theorem r143_102 : Runs xs sl d 143 102 [l0, l1, l2, l3, l4, l5, l6] [.int u2, .ref b1, s0] H r ↔ ∃ v, hA H b1 0 u2 = some v ∧ Runs xs sl d 143 103 [l0, l1, l2, l3, l4, l5, l6] [.int v, s0] H r := run_iald (mo_143 102 rfl) rfl
theorem r143_103 : Runs xs sl d 143 103 [l0, l1, l2, l3, l4, l5, l6] [.int u1, .int u0] H r ↔ Runs xs sl d 143 104 [l0, l1, l2, l3, l4, l5, l6] [.int (u0 + u1)] H r := q_iadd (mo_143 103 rfl) rfl
theorem r143_104 : Runs xs sl d 143 104 [l0, l1, l2, some (.int i3), l4, l5, l6] [.int u0] H r ↔ Runs xs sl d 143 106 [l0, l1, l2, some (.int i3), some (.int u0), l5, l6] [] H r := q_istore (mo_143 104 rfl) (Nat.le_of_ble_eq_true rfl) rfl rfl
theorem r143_106 : Runs xs sl d 143 106 [l0, l1, l2, l3, some (.int i4), some (.int i5), l6] [] H r ↔ Runs xs sl d 143 109 [l0, l1, l2, l3, some (.int i4), some (.int (i5 + 1)), l6] [] H r := q_iinc (mo_143 106 rfl) rfl (Nat.le_of_ble_eq_true rfl) rfl rfl
theorem r143_109 : Runs xs sl d 143 109 [l0, l1, l2, l3, l4, l5, l6] [] H r ↔ Runs xs sl d 143 21 [l0, l1, l2, l3, l4, l5, l6] [] H r := q_goto (mo_143 109 rfl) rfl
theorem r143_112 : Runs xs sl d 143 112 [l0, l1, l2, l3, some (.int i4), l5, l6] [] H r ↔ Runs xs sl d 143 114 [l0, l1, l2, l3, some (.int i4), l5, l6] [.int i4] H r := q_iload (mo_143 112 rfl) rfl rfl
theorem r143_114 : Runs xs sl d 143 114 [l0, l1, l2, l3, l4, l5, l6] [.int u0] H r ↔ r = (some (.int u0), H) := q_iret (mo_143 114 rfl) mrt_143
theorem r144_0 : Runs xs sl d 144 0 [l0, l1, l2] [] H r ↔ Runs xs sl d 144 1 [l0, l1, l2] [.int 0] H r := q_iconst (mo_144 0 rfl) rfl rfl
theorem r144_1 : Runs xs sl d 144 1 [l0, some (.int i1), l2] [.int u0] H r ↔ Runs xs sl d 144 2 [l0, some (.int i1), some (.int u0)] [] H r := q_istore_n (mo_144 1 rfl) (Nat.le_of_ble_eq_true rfl) rfl rfl
theorem r144_2 : Runs xs sl d 144 2 [l0, l1, some (.int i2)] [] H r ↔ Runs xs sl d 144 3 [l0, l1, some (.int i2)] [.int i2] H r := q_iload_n (mo_144 2 rfl) rfl rfl
theorem r144_3 : Runs xs sl d 144 3 [some (.ref a0), l1, l2] [s0] H r ↔ Runs xs sl d 144 4 [some (.ref a0), l1, l2] [.ref a0, s0] H r := q_aload_n (mo_144 3 rfl) rfl rfl
theorem r144_4 : Runs xs sl d 144 4 [l0, l1, l2] [.ref b1, s0] H r ↔ ∃ v, hO H b1 6 1 = some v ∧ Runs xs sl d 144 7 [l0, l1, l2] [v, s0] H r := q_getf (mo_144 4 rfl) mow_144 rfl rfl
theorem r144_7 : Runs xs sl d 144 7 [l0, l1, l2] [.int u1, .int u0] H r ↔ if u1 ≤ u0 then Runs xs sl d 144 27 [l0, l1, l2] [] H r else Runs xs sl d 144 10 [l0, l1, l2] [] H r := q_icmp_ge (mo_144 7 rfl) rfl rfl
theorem r144_10 : Runs xs sl d 144 10 [some (.ref a0), l1, l2] [] H r ↔ Runs xs sl d 144 11 [some (.ref a0), l1, l2] [.ref a0] H r := q_aload_n (mo_144 10 rfl) rfl rfl
theorem r144_11 : Runs xs sl d 144 11 [l0, some (.int i1), l2] [s0] H r ↔ Runs xs sl d 144 12 [l0, some (.int i1), l2] [.int i1, s0] H r := q_iload_n (mo_144 11 rfl) rfl rfl
theorem r144_12 : Runs xs sl d 144 12 [l0, l1, some (.int i2)] [s1, s0] H r ↔ Runs xs sl d 144 13 [l0, l1, some (.int i2)] [.int i2, s1, s0] H r := q_iload_n (mo_144 12 rfl) rfl rfl
theorem r144_13 (hc : hC H b0 = some 6) : Runs xs sl (d + 1) 144 13 [l0, l1, l2] [.int u2, .int u1, .ref b0] H r ↔ ∃ v H1, Runs xs sl d 123 0 [some (.ref b0), some (.int u1), some (.int u2)] [] H (v, H1) ∧ Runs xs sl (d + 1) 144 16 [l0, l1, l2] (v.toList ++ []) H1 r := q_callV (M' := 123) (as := [.int u1, .int u2]) (rest := []) (mo_144 13 rfl) mow_144 rfl mcs_123 mmx_123 rfl (Nat.le_of_ble_eq_true rfl) (Nat.le_of_ble_eq_true rfl) rfl rfl hc
theorem r144_16 : Runs xs sl d 144 16 [l0, l1, l2] [.int u0] H r ↔ if u0 = 0 then Runs xs sl d 144 21 [l0, l1, l2] [] H r else Runs xs sl d 144 19 [l0, l1, l2] [] H r := q_if_eq (mo_144 16 rfl) rfl rfl
theorem r144_19 : Runs xs sl d 144 19 [l0, l1, some (.int i2)] [] H r ↔ Runs xs sl d 144 20 [l0, l1, some (.int i2)] [.int i2] H r := q_iload_n (mo_144 19 rfl) rfl rfl
theorem r144_20 : Runs xs sl d 144 20 [l0, l1, l2] [.int u0] H r ↔ r = (some (.int u0), H) := q_iret (mo_144 20 rfl) mrt_144
theorem r144_21 : Runs xs sl d 144 21 [l0, some (.int i1), some (.int i2)] [] H r ↔ Runs xs sl d 144 24 [l0, some (.int i1), some (.int (i2 + 1))] [] H r := q_iinc (mo_144 21 rfl) rfl (Nat.le_of_ble_eq_true rfl) rfl rfl
theorem r144_24 : Runs xs sl d 144 24 [l0, l1, l2] [] H r ↔ Runs xs sl d 144 2 [l0, l1, l2] [] H r := q_goto (mo_144 24 rfl) rfl
theorem r144_27 : Runs xs sl d 144 27 [l0, l1, l2] [] H r ↔ Runs xs sl d 144 28 [l0, l1, l2] [.int (-1)] H r := q_iconst (mo_144 27 rfl) rfl rfl
theorem r144_28 : Runs xs sl d 144 28 [l0, l1, l2] [.int u0] H r ↔ r = (some (.int u0), H) := q_iret (mo_144 28 rfl) mrt_144
end ROWS
