/-! ROWS, printed by wip/whole/rows.py: 49:81 -/
section ROWS
variable {xs : Nat → Int32} {sl d : Nat} {H : mH} {r : Option Value × mH} {l0 l1 l2 l3 l4 l5 l6 l7 l8 l9 l10 l11 : Option Value} {s0 s1 s2 s3 s4 s5 s6 s7 s8 s9 s10 s11 : Value} {i0 i1 i2 i3 i4 i5 i6 i7 i8 i9 i10 i11 : Int32} {j0 j1 j2 j3 j4 j5 j6 j7 j8 j9 j10 j11 : Int64} {a0 a1 a2 a3 a4 a5 a6 a7 a8 a9 a10 a11 : Nat} {u0 u1 u2 u3 u4 u5 u6 u7 u8 u9 u10 u11 : Int32} {w0 w1 w2 w3 w4 w5 w6 w7 w8 w9 w10 w11 : Int64} {b0 b1 b2 b3 b4 b5 b6 b7 b8 b9 b10 b11 : Nat}
theorem r49_0 : Runs xs sl d 49 0 [some (.ref a0)] [] H r ↔ Runs xs sl d 49 1 [some (.ref a0)] [.ref a0] H r := q_aload_n (mo_49 0 rfl) rfl rfl
theorem r49_1 : Runs xs sl (d + 1) 49 1 [l0] [.ref b0] H r ↔ ∃ v H1, Runs xs sl d 292 0 [some (.ref b0)] [] H (v, H1) ∧ Runs xs sl (d + 1) 49 4 [l0] (v.toList ++ []) H1 r := q_callI (M' := 292) (as := []) (rest := []) (mo_49 1 rfl) mow_49 rfl mmx_292 rfl (Nat.le_of_ble_eq_true rfl) (Nat.le_of_ble_eq_true rfl) rfl rfl
theorem r49_4 : Runs xs sl d 49 4 [some (.ref a0)] [] H r ↔ Runs xs sl d 49 5 [some (.ref a0)] [.ref a0] H r := q_aload_n (mo_49 4 rfl) rfl rfl
theorem r49_5 : Runs xs sl d 49 5 [l0] [s0] H r ↔ Runs xs sl d 49 8 [l0] [.ref H.2.1, s0] (mnew H (mO 4 (fun k => mdef (mTy 4 k))) 4) r := q_new (mo_49 5 rfl) mow_49 rfl rfl rfl
theorem r49_8 : Runs xs sl d 49 8 [l0] [.ref b1, s0] H r ↔ Runs xs sl d 49 9 [l0] [.ref b1, .ref b1, s0] H r := q_dup (mo_49 8 rfl) rfl rfl
theorem r49_9 : Runs xs sl (d + 1) 49 9 [l0] [.ref b2, .ref b1, .ref b0] H r ↔ ∃ v H1, Runs xs sl d 81 0 [some (.ref b2)] [] H (v, H1) ∧ Runs xs sl (d + 1) 49 12 [l0] (v.toList ++ [.ref b1, .ref b0]) H1 r := q_callI (M' := 81) (as := []) (rest := [.ref b1, .ref b0]) (mo_49 9 rfl) mow_49 rfl mmx_81 rfl (Nat.le_of_ble_eq_true rfl) (Nat.le_of_ble_eq_true rfl) rfl rfl
theorem r49_12 : Runs xs sl d 49 12 [l0] [.ref b1, .ref b0] H r ↔ ∃ H1, hOw H b0 1 0 (.ref b1) = some H1 ∧ Runs xs sl d 49 15 [l0] [] H1 r := q_putf (mo_49 12 rfl) mow_49 rfl rfl (by decide +kernel) rfl
theorem r49_15 : Runs xs sl d 49 15 [some (.ref a0)] [] H r ↔ Runs xs sl d 49 16 [some (.ref a0)] [.ref a0] H r := q_aload_n (mo_49 15 rfl) rfl rfl
theorem r49_16 : Runs xs sl d 49 16 [l0] [s0] H r ↔ Runs xs sl d 49 18 [l0] [.int 42, s0] H r := q_bipush (mo_49 16 rfl) rfl rfl
theorem r49_18 (h : ¬ (u1 < 0 ∨ 100000 < u1.toNatClampNeg)) : Runs xs sl d 49 18 [l0] [.int u1, s0] H r ↔ Runs xs sl d 49 20 [l0] [.ref H.2.1, s0] (mnew H (mI 0 u1.toNatClampNeg (fun _ => 0)) u1.toNatClampNeg) r := q_newa_int (mo_49 18 rfl) rfl h
theorem r49_20 : Runs xs sl d 49 20 [l0] [.ref b1, .ref b0] H r ↔ ∃ H1, hOw H b0 1 1 (.ref b1) = some H1 ∧ Runs xs sl d 49 23 [l0] [] H1 r := q_putf (mo_49 20 rfl) mow_49 rfl rfl (by decide +kernel) rfl
theorem r49_23 : Runs xs sl d 49 23 [some (.ref a0)] [] H r ↔ Runs xs sl d 49 24 [some (.ref a0)] [.ref a0] H r := q_aload_n (mo_49 23 rfl) rfl rfl
theorem r49_24 : Runs xs sl d 49 24 [l0] [s0] H r ↔ Runs xs sl d 49 26 [l0] [.int 42, s0] H r := q_bipush (mo_49 24 rfl) rfl rfl
theorem r49_26 (h : ¬ (u1 < 0 ∨ 100000 < u1.toNatClampNeg)) : Runs xs sl d 49 26 [l0] [.int u1, s0] H r ↔ Runs xs sl d 49 28 [l0] [.ref H.2.1, s0] (mnew H (mI 0 u1.toNatClampNeg (fun _ => 0)) u1.toNatClampNeg) r := q_newa_int (mo_49 26 rfl) rfl h
theorem r49_28 : Runs xs sl d 49 28 [l0] [.ref b1, .ref b0] H r ↔ ∃ H1, hOw H b0 1 2 (.ref b1) = some H1 ∧ Runs xs sl d 49 31 [l0] [] H1 r := q_putf (mo_49 28 rfl) mow_49 rfl rfl (by decide +kernel) rfl
theorem r49_31 : Runs xs sl d 49 31 [some (.ref a0)] [] H r ↔ Runs xs sl d 49 32 [some (.ref a0)] [.ref a0] H r := q_aload_n (mo_49 31 rfl) rfl rfl
theorem r49_32 : Runs xs sl d 49 32 [l0] [s0] H r ↔ Runs xs sl d 49 34 [l0] [.int 13, s0] H r := q_bipush (mo_49 32 rfl) rfl rfl
theorem r49_34 (h : ¬ (u1 < 0 ∨ 100000 < u1.toNatClampNeg)) : Runs xs sl d 49 34 [l0] [.int u1, s0] H r ↔ Runs xs sl d 49 36 [l0] [.ref H.2.1, s0] (mnew H (mI 0 u1.toNatClampNeg (fun _ => 0)) u1.toNatClampNeg) r := q_newa_int (mo_49 34 rfl) rfl h
theorem r49_36 : Runs xs sl d 49 36 [l0] [.ref b1, .ref b0] H r ↔ ∃ H1, hOw H b0 1 3 (.ref b1) = some H1 ∧ Runs xs sl d 49 39 [l0] [] H1 r := q_putf (mo_49 36 rfl) mow_49 rfl rfl (by decide +kernel) rfl
theorem r49_39 : Runs xs sl d 49 39 [some (.ref a0)] [] H r ↔ Runs xs sl d 49 40 [some (.ref a0)] [.ref a0] H r := q_aload_n (mo_49 39 rfl) rfl rfl
theorem r49_40 : Runs xs sl d 49 40 [l0] [s0] H r ↔ Runs xs sl d 49 42 [l0] [.int 13, s0] H r := q_bipush (mo_49 40 rfl) rfl rfl
theorem r49_42 (h : ¬ (u1 < 0 ∨ 100000 < u1.toNatClampNeg)) : Runs xs sl d 49 42 [l0] [.int u1, s0] H r ↔ Runs xs sl d 49 44 [l0] [.ref H.2.1, s0] (mnew H (mI 0 u1.toNatClampNeg (fun _ => 0)) u1.toNatClampNeg) r := q_newa_int (mo_49 42 rfl) rfl h
theorem r49_44 : Runs xs sl d 49 44 [l0] [.ref b1, .ref b0] H r ↔ ∃ H1, hOw H b0 1 4 (.ref b1) = some H1 ∧ Runs xs sl d 49 47 [l0] [] H1 r := q_putf (mo_49 44 rfl) mow_49 rfl rfl (by decide +kernel) rfl
theorem r49_47 : Runs xs sl d 49 47 [some (.ref a0)] [] H r ↔ Runs xs sl d 49 48 [some (.ref a0)] [.ref a0] H r := q_aload_n (mo_49 47 rfl) rfl rfl
theorem r49_48 : Runs xs sl d 49 48 [l0] [s0] H r ↔ Runs xs sl d 49 50 [l0] [.int 7, s0] H r := q_bipush (mo_49 48 rfl) rfl rfl
theorem r49_50 (h : ¬ (u1 < 0 ∨ 100000 < u1.toNatClampNeg)) : Runs xs sl d 49 50 [l0] [.int u1, s0] H r ↔ Runs xs sl d 49 52 [l0] [.ref H.2.1, s0] (mnew H (mI 0 u1.toNatClampNeg (fun _ => 0)) u1.toNatClampNeg) r := q_newa_int (mo_49 50 rfl) rfl h
theorem r49_52 : Runs xs sl d 49 52 [l0] [.ref b1, .ref b0] H r ↔ ∃ H1, hOw H b0 1 5 (.ref b1) = some H1 ∧ Runs xs sl d 49 55 [l0] [] H1 r := q_putf (mo_49 52 rfl) mow_49 rfl rfl (by decide +kernel) rfl
theorem r49_55 : Runs xs sl d 49 55 [l0] [] H r ↔ r = (none, H) := q_ret (mo_49 55 rfl) mrt_49
theorem r50_0 : Runs xs sl d 50 0 [some (.ref a0), l1, l2, l3, l4] [] H r ↔ Runs xs sl d 50 1 [some (.ref a0), l1, l2, l3, l4] [.ref a0] H r := q_aload_n (mo_50 0 rfl) rfl rfl
theorem r50_1 : Runs xs sl d 50 1 [l0, some (.ref a1), l2, l3, l4] [s0] H r ↔ Runs xs sl d 50 2 [l0, some (.ref a1), l2, l3, l4] [.ref a1, s0] H r := q_aload_n (mo_50 1 rfl) rfl rfl
theorem r50_1n : Runs xs sl d 50 1 [l0, some .null, l2, l3, l4] [s0] H r ↔ Runs xs sl d 50 2 [l0, some .null, l2, l3, l4] [.null, s0] H r := q_aload_nN (mo_50 1 rfl) rfl rfl
theorem r50_2 : Runs xs sl d 50 2 [l0, l1, l2, l3, l4] [.ref b1, .ref b0] H r ↔ ∃ H1, hOw H b0 1 0 (.ref b1) = some H1 ∧ Runs xs sl d 50 5 [l0, l1, l2, l3, l4] [] H1 r := q_putf (mo_50 2 rfl) mow_50 rfl rfl (by decide +kernel) rfl
theorem r50_5 : Runs xs sl d 50 5 [some (.ref a0), l1, l2, l3, l4] [] H r ↔ Runs xs sl d 50 6 [some (.ref a0), l1, l2, l3, l4] [.ref a0] H r := q_aload_n (mo_50 5 rfl) rfl rfl
theorem r50_6 (hc : hC H b0 = some 1) : Runs xs sl (d + 1) 50 6 [l0, l1, l2, l3, l4] [.ref b0] H r ↔ ∃ v H1, Runs xs sl d 51 0 [some (.ref b0), none, none, none, none] [] H (v, H1) ∧ Runs xs sl (d + 1) 50 9 [l0, l1, l2, l3, l4] (v.toList ++ []) H1 r := q_callV (M' := 51) (as := []) (rest := []) (mo_50 6 rfl) mow_50 rfl mcs_51 mmx_51 rfl (Nat.le_of_ble_eq_true rfl) (Nat.le_of_ble_eq_true rfl) rfl rfl hc
theorem r50_9 : Runs xs sl d 50 9 [l0, l1, l2, l3, l4] [] H r ↔ Runs xs sl d 50 10 [l0, l1, l2, l3, l4] [.int 0] H r := q_iconst (mo_50 9 rfl) rfl rfl
theorem r50_10 : Runs xs sl d 50 10 [l0, some (.ref a1), l2, l3, l4] [.int u0] H r ↔ Runs xs sl d 50 11 [l0, some (.ref a1), some (.int u0), l3, l4] [] H r := q_istore_n (mo_50 10 rfl) (Nat.le_of_ble_eq_true rfl) rfl rfl
theorem r50_10_1 : Runs xs sl d 50 10 [l0, some .null, l2, l3, l4] [.int u0] H r ↔ Runs xs sl d 50 11 [l0, some .null, some (.int u0), l3, l4] [] H r := q_istore_n (mo_50 10 rfl) (Nat.le_of_ble_eq_true rfl) rfl rfl
theorem r50_11 : Runs xs sl d 50 11 [l0, l1, some (.int i2), l3, l4] [] H r ↔ Runs xs sl d 50 12 [l0, l1, some (.int i2), l3, l4] [.int i2] H r := q_iload_n (mo_50 11 rfl) rfl rfl
theorem r50_12 : Runs xs sl d 50 12 [some (.ref a0), l1, l2, l3, l4] [s0] H r ↔ Runs xs sl d 50 13 [some (.ref a0), l1, l2, l3, l4] [.ref a0, s0] H r := q_aload_n (mo_50 12 rfl) rfl rfl
theorem r50_13 : Runs xs sl d 50 13 [l0, l1, l2, l3, l4] [.ref b1, s0] H r ↔ ∃ v, hO H b1 1 0 = some v ∧ Runs xs sl d 50 16 [l0, l1, l2, l3, l4] [v, s0] H r := q_getf (mo_50 13 rfl) mow_50 rfl rfl
theorem r50_16 : Runs xs sl d 50 16 [l0, l1, l2, l3, l4] [.ref b1, s0] H r ↔ ∃ v, hO H b1 4 0 = some v ∧ Runs xs sl d 50 19 [l0, l1, l2, l3, l4] [v, s0] H r := q_getf (mo_50 16 rfl) mow_50 rfl rfl
theorem r50_19 : Runs xs sl d 50 19 [l0, l1, l2, l3, l4] [.int u1, .int u0] H r ↔ if u1 ≤ u0 then Runs xs sl d 50 112 [l0, l1, l2, l3, l4] [] H r else Runs xs sl d 50 22 [l0, l1, l2, l3, l4] [] H r := q_icmp_ge (mo_50 19 rfl) rfl rfl
theorem r50_22 : Runs xs sl d 50 22 [some (.ref a0), l1, l2, l3, l4] [] H r ↔ Runs xs sl d 50 23 [some (.ref a0), l1, l2, l3, l4] [.ref a0] H r := q_aload_n (mo_50 22 rfl) rfl rfl
theorem r50_23 : Runs xs sl d 50 23 [l0, l1, some (.int i2), l3, l4] [s0] H r ↔ Runs xs sl d 50 24 [l0, l1, some (.int i2), l3, l4] [.int i2, s0] H r := q_iload_n (mo_50 23 rfl) rfl rfl
theorem r50_24 (hc : hC H b0 = some 1) : Runs xs sl (d + 1) 50 24 [l0, l1, l2, l3, l4] [.int u1, .ref b0] H r ↔ ∃ v H1, Runs xs sl d 52 0 [some (.ref b0), some (.int u1), none] [] H (v, H1) ∧ Runs xs sl (d + 1) 50 27 [l0, l1, l2, l3, l4] (v.toList ++ []) H1 r := q_callV (M' := 52) (as := [.int u1]) (rest := []) (mo_50 24 rfl) mow_50 rfl mcs_52 mmx_52 rfl (Nat.le_of_ble_eq_true rfl) (Nat.le_of_ble_eq_true rfl) rfl rfl hc
theorem r50_27 : Runs xs sl d 50 27 [l0, l1, some (.int i2), l3, l4] [] H r ↔ Runs xs sl d 50 28 [l0, l1, some (.int i2), l3, l4] [.int i2] H r := q_iload_n (mo_50 27 rfl) rfl rfl
theorem r50_28 : Runs xs sl d 50 28 [l0, l1, l2, l3, l4] [s0] H r ↔ Runs xs sl d 50 30 [l0, l1, l2, l3, l4] [.int 7, s0] H r := q_bipush (mo_50 28 rfl) rfl rfl
theorem r50_30 : Runs xs sl d 50 30 [l0, l1, l2, l3, l4] [.int u1, .int u0] H r ↔ Runs xs sl d 50 31 [l0, l1, l2, l3, l4] [.int (u0 * u1)] H r := q_imul (mo_50 30 rfl) rfl
theorem r50_31 : Runs xs sl d 50 31 [l0, l1, some (.int i2), l3, l4] [.int u0] H r ↔ Runs xs sl d 50 32 [l0, l1, some (.int i2), some (.int u0), l4] [] H r := q_istore_n (mo_50 31 rfl) (Nat.le_of_ble_eq_true rfl) rfl rfl
theorem r50_32 : Runs xs sl d 50 32 [l0, l1, l2, some (.int i3), l4] [] H r ↔ Runs xs sl d 50 33 [l0, l1, l2, some (.int i3), l4] [.int i3] H r := q_iload_n (mo_50 32 rfl) rfl rfl
theorem r50_33 : Runs xs sl d 50 33 [l0, l1, some (.int i2), l3, l4] [s0] H r ↔ Runs xs sl d 50 34 [l0, l1, some (.int i2), l3, l4] [.int i2, s0] H r := q_iload_n (mo_50 33 rfl) rfl rfl
theorem r50_34 : Runs xs sl d 50 34 [l0, l1, l2, l3, l4] [s1, s0] H r ↔ Runs xs sl d 50 35 [l0, l1, l2, l3, l4] [.int 1, s1, s0] H r := q_iconst (mo_50 34 rfl) rfl rfl
theorem r50_35 : Runs xs sl d 50 35 [l0, l1, l2, l3, l4] [.int u2, .int u1, s0] H r ↔ Runs xs sl d 50 36 [l0, l1, l2, l3, l4] [.int (u1 + u2), s0] H r := q_iadd (mo_50 35 rfl) rfl
theorem r50_36 : Runs xs sl d 50 36 [l0, l1, l2, l3, l4] [s1, s0] H r ↔ Runs xs sl d 50 38 [l0, l1, l2, l3, l4] [.int 7, s1, s0] H r := q_bipush (mo_50 36 rfl) rfl rfl
theorem r50_38 : Runs xs sl d 50 38 [l0, l1, l2, l3, l4] [.int u2, .int u1, s0] H r ↔ Runs xs sl d 50 39 [l0, l1, l2, l3, l4] [.int (u1 * u2), s0] H r := q_imul (mo_50 38 rfl) rfl
theorem r50_39 : Runs xs sl d 50 39 [l0, l1, l2, l3, l4] [.int u1, .int u0] H r ↔ if u1 ≤ u0 then Runs xs sl d 50 106 [l0, l1, l2, l3, l4] [] H r else Runs xs sl d 50 42 [l0, l1, l2, l3, l4] [] H r := q_icmp_ge (mo_50 39 rfl) rfl rfl
theorem r50_42 : Runs xs sl d 50 42 [some (.ref a0), l1, l2, l3, l4] [] H r ↔ Runs xs sl d 50 43 [some (.ref a0), l1, l2, l3, l4] [.ref a0] H r := q_aload_n (mo_50 42 rfl) rfl rfl
theorem r50_43 : Runs xs sl d 50 43 [l0, l1, l2, l3, l4] [.ref b0] H r ↔ ∃ v, hO H b0 1 2 = some v ∧ Runs xs sl d 50 46 [l0, l1, l2, l3, l4] [v] H r := q_getf (mo_50 43 rfl) mow_50 rfl rfl
theorem r50_46 : Runs xs sl d 50 46 [l0, l1, l2, some (.int i3), l4] [s0] H r ↔ Runs xs sl d 50 47 [l0, l1, l2, some (.int i3), l4] [.int i3, s0] H r := q_iload_n (mo_50 46 rfl) rfl rfl
theorem r50_47 : Runs xs sl d 50 47 [l0, l1, l2, l3, l4] [s1, s0] H r ↔ Runs xs sl d 50 48 [l0, l1, l2, l3, l4] [.int 0, s1, s0] H r := q_iconst (mo_50 47 rfl) rfl rfl
theorem r50_48 : Runs xs sl d 50 48 [l0, l1, l2, l3, l4] [.int u2, .int u1, .ref b0] H r ↔ ∃ H1, hAw H b0 0 u1 u2 = some H1 ∧ Runs xs sl d 50 49 [l0, l1, l2, l3, l4] [] H1 r := run_iast (mo_50 48 rfl) rfl
theorem r50_49 : Runs xs sl d 50 49 [l0, l1, l2, l3, l4] [] H r ↔ Runs xs sl d 50 50 [l0, l1, l2, l3, l4] [.int 0] H r := q_iconst (mo_50 49 rfl) rfl rfl
theorem r50_50 : Runs xs sl d 50 50 [l0, l1, l2, some (.int i3), l4] [.int u0] H r ↔ Runs xs sl d 50 52 [l0, l1, l2, some (.int i3), some (.int u0)] [] H r := q_istore (mo_50 50 rfl) (Nat.le_of_ble_eq_true rfl) rfl rfl
theorem r50_52 : Runs xs sl d 50 52 [l0, l1, l2, l3, some (.int i4)] [] H r ↔ Runs xs sl d 50 54 [l0, l1, l2, l3, some (.int i4)] [.int i4] H r := q_iload (mo_50 52 rfl) rfl rfl
theorem r50_54 : Runs xs sl d 50 54 [l0, l1, l2, l3, l4] [s0] H r ↔ Runs xs sl d 50 56 [l0, l1, l2, l3, l4] [.int 12, s0] H r := q_bipush (mo_50 54 rfl) rfl rfl
theorem r50_56 : Runs xs sl d 50 56 [l0, l1, l2, l3, l4] [.int u1, .int u0] H r ↔ if u1 < u0 then Runs xs sl d 50 100 [l0, l1, l2, l3, l4] [] H r else Runs xs sl d 50 59 [l0, l1, l2, l3, l4] [] H r := q_icmp_gt (mo_50 56 rfl) rfl rfl
theorem r50_59 : Runs xs sl d 50 59 [l0, l1, l2, l3, some (.int i4)] [] H r ↔ Runs xs sl d 50 61 [l0, l1, l2, l3, some (.int i4)] [.int i4] H r := q_iload (mo_50 59 rfl) rfl rfl
theorem r50_61 : Runs xs sl d 50 61 [some (.ref a0), l1, l2, l3, l4] [s0] H r ↔ Runs xs sl d 50 62 [some (.ref a0), l1, l2, l3, l4] [.ref a0, s0] H r := q_aload_n (mo_50 61 rfl) rfl rfl
theorem r50_62 : Runs xs sl d 50 62 [l0, l1, l2, l3, l4] [.ref b1, s0] H r ↔ ∃ v, hO H b1 1 1 = some v ∧ Runs xs sl d 50 65 [l0, l1, l2, l3, l4] [v, s0] H r := q_getf (mo_50 62 rfl) mow_50 rfl rfl
theorem r50_65 : Runs xs sl d 50 65 [l0, l1, l2, some (.int i3), l4] [s1, s0] H r ↔ Runs xs sl d 50 66 [l0, l1, l2, some (.int i3), l4] [.int i3, s1, s0] H r := q_iload_n (mo_50 65 rfl) rfl rfl
theorem r50_66 : Runs xs sl d 50 66 [l0, l1, l2, l3, l4] [.int u2, .ref b1, s0] H r ↔ ∃ v, hA H b1 0 u2 = some v ∧ Runs xs sl d 50 67 [l0, l1, l2, l3, l4] [.int v, s0] H r := run_iald (mo_50 66 rfl) rfl
theorem r50_67 : Runs xs sl d 50 67 [l0, l1, l2, l3, l4] [.int u1, .int u0] H r ↔ Runs xs sl d 50 68 [l0, l1, l2, l3, l4] [.int (u0 + u1)] H r := q_iadd (mo_50 67 rfl) rfl
theorem r50_68 : Runs xs sl d 50 68 [some (.ref a0), l1, l2, l3, l4] [s0] H r ↔ Runs xs sl d 50 69 [some (.ref a0), l1, l2, l3, l4] [.ref a0, s0] H r := q_aload_n (mo_50 68 rfl) rfl rfl
theorem r50_69 : Runs xs sl d 50 69 [l0, l1, l2, l3, l4] [.ref b1, s0] H r ↔ ∃ v, hO H b1 1 0 = some v ∧ Runs xs sl d 50 72 [l0, l1, l2, l3, l4] [v, s0] H r := q_getf (mo_50 69 rfl) mow_50 rfl rfl
theorem r50_72 : Runs xs sl d 50 72 [l0, l1, l2, l3, l4] [.ref b1, s0] H r ↔ ∃ v, hO H b1 4 1 = some v ∧ Runs xs sl d 50 75 [l0, l1, l2, l3, l4] [v, s0] H r := q_getf (mo_50 72 rfl) mow_50 rfl rfl
theorem r50_75 : Runs xs sl d 50 75 [l0, l1, l2, l3, l4] [.int u1, .int u0] H r ↔ if u1 < u0 then Runs xs sl d 50 100 [l0, l1, l2, l3, l4] [] H r else Runs xs sl d 50 78 [l0, l1, l2, l3, l4] [] H r := q_icmp_gt (mo_50 75 rfl) rfl rfl
theorem r50_78 : Runs xs sl d 50 78 [some (.ref a0), l1, l2, l3, l4] [] H r ↔ Runs xs sl d 50 79 [some (.ref a0), l1, l2, l3, l4] [.ref a0] H r := q_aload_n (mo_50 78 rfl) rfl rfl
theorem r50_79 : Runs xs sl d 50 79 [l0, l1, l2, l3, l4] [.ref b0] H r ↔ ∃ v, hO H b0 1 2 = some v ∧ Runs xs sl d 50 82 [l0, l1, l2, l3, l4] [v] H r := q_getf (mo_50 79 rfl) mow_50 rfl rfl
theorem r50_82 : Runs xs sl d 50 82 [l0, l1, l2, some (.int i3), l4] [s0] H r ↔ Runs xs sl d 50 83 [l0, l1, l2, some (.int i3), l4] [.int i3, s0] H r := q_iload_n (mo_50 82 rfl) rfl rfl
theorem r50_83 : Runs xs sl d 50 83 [l0, l1, l2, l3, l4] [.int u1, .ref b0] H r ↔ Runs xs sl d 50 84 [l0, l1, l2, l3, l4] [.int u1, .ref b0, .int u1, .ref b0] H r := q_dup2 (mo_50 83 rfl) rfl rfl rfl
theorem r50_84 : Runs xs sl d 50 84 [l0, l1, l2, l3, l4] [.int u3, .ref b2, s1, s0] H r ↔ ∃ v, hA H b2 0 u3 = some v ∧ Runs xs sl d 50 85 [l0, l1, l2, l3, l4] [.int v, s1, s0] H r := run_iald (mo_50 84 rfl) rfl
theorem r50_85 : Runs xs sl d 50 85 [some (.ref a0), l1, l2, l3, l4] [s2, s1, s0] H r ↔ Runs xs sl d 50 86 [some (.ref a0), l1, l2, l3, l4] [.ref a0, s2, s1, s0] H r := q_aload_n (mo_50 85 rfl) rfl rfl
theorem r50_86 : Runs xs sl d 50 86 [l0, l1, l2, l3, l4] [.ref b3, s2, s1, s0] H r ↔ ∃ v, hO H b3 1 3 = some v ∧ Runs xs sl d 50 89 [l0, l1, l2, l3, l4] [v, s2, s1, s0] H r := q_getf (mo_50 86 rfl) mow_50 rfl rfl
theorem r50_89 : Runs xs sl d 50 89 [l0, l1, l2, l3, some (.int i4)] [s3, s2, s1, s0] H r ↔ Runs xs sl d 50 91 [l0, l1, l2, l3, some (.int i4)] [.int i4, s3, s2, s1, s0] H r := q_iload (mo_50 89 rfl) rfl rfl
theorem r50_91 : Runs xs sl d 50 91 [l0, l1, l2, l3, l4] [.int u4, .ref b3, s2, s1, s0] H r ↔ ∃ v, hA H b3 0 u4 = some v ∧ Runs xs sl d 50 92 [l0, l1, l2, l3, l4] [.int v, s2, s1, s0] H r := run_iald (mo_50 91 rfl) rfl
theorem r50_92 : Runs xs sl d 50 92 [l0, l1, l2, l3, l4] [.int u3, .int u2, s1, s0] H r ↔ Runs xs sl d 50 93 [l0, l1, l2, l3, l4] [.int (u2 + u3), s1, s0] H r := q_iadd (mo_50 92 rfl) rfl
theorem r50_93 : Runs xs sl d 50 93 [l0, l1, l2, l3, l4] [.int u2, .int u1, .ref b0] H r ↔ ∃ H1, hAw H b0 0 u1 u2 = some H1 ∧ Runs xs sl d 50 94 [l0, l1, l2, l3, l4] [] H1 r := run_iast (mo_50 93 rfl) rfl
theorem r50_94 : Runs xs sl d 50 94 [l0, l1, l2, some (.int i3), some (.int i4)] [] H r ↔ Runs xs sl d 50 97 [l0, l1, l2, some (.int i3), some (.int (i4 + 1))] [] H r := q_iinc (mo_50 94 rfl) rfl (Nat.le_of_ble_eq_true rfl) rfl rfl
theorem r50_97 : Runs xs sl d 50 97 [l0, l1, l2, l3, l4] [] H r ↔ Runs xs sl d 50 52 [l0, l1, l2, l3, l4] [] H r := q_goto (mo_50 97 rfl) rfl
theorem r50_100 : Runs xs sl d 50 100 [l0, l1, some (.int i2), some (.int i3), l4] [] H r ↔ Runs xs sl d 50 103 [l0, l1, some (.int i2), some (.int (i3 + 1)), l4] [] H r := q_iinc (mo_50 100 rfl) rfl (Nat.le_of_ble_eq_true rfl) rfl rfl
theorem r50_103 : Runs xs sl d 50 103 [l0, l1, l2, l3, l4] [] H r ↔ Runs xs sl d 50 32 [l0, l1, l2, l3, l4] [] H r := q_goto (mo_50 103 rfl) rfl
theorem r50_106 : Runs xs sl d 50 106 [l0, some (.ref a1), some (.int i2), l3, l4] [] H r ↔ Runs xs sl d 50 109 [l0, some (.ref a1), some (.int (i2 + 1)), l3, l4] [] H r := q_iinc (mo_50 106 rfl) rfl (Nat.le_of_ble_eq_true rfl) rfl rfl
theorem r50_106_1 : Runs xs sl d 50 106 [l0, some .null, some (.int i2), l3, l4] [] H r ↔ Runs xs sl d 50 109 [l0, some .null, some (.int (i2 + 1)), l3, l4] [] H r := q_iinc (mo_50 106 rfl) rfl (Nat.le_of_ble_eq_true rfl) rfl rfl
theorem r50_109 : Runs xs sl d 50 109 [l0, l1, l2, l3, l4] [] H r ↔ Runs xs sl d 50 11 [l0, l1, l2, l3, l4] [] H r := q_goto (mo_50 109 rfl) rfl
theorem r50_112 : Runs xs sl d 50 112 [l0, l1, l2, l3, l4] [] H r ↔ r = (none, H) := q_ret (mo_50 112 rfl) mrt_50
theorem r51_0 : Runs xs sl d 51 0 [some (.ref a0), l1, l2, l3, l4] [] H r ↔ Runs xs sl d 51 1 [some (.ref a0), l1, l2, l3, l4] [.ref a0] H r := q_aload_n (mo_51 0 rfl) rfl rfl
theorem r51_1 : Runs xs sl d 51 1 [l0, l1, l2, l3, l4] [.ref b0] H r ↔ ∃ v, hO H b0 1 1 = some v ∧ Runs xs sl d 51 4 [l0, l1, l2, l3, l4] [v] H r := q_getf (mo_51 1 rfl) mow_51 rfl rfl
theorem r51_4 : Runs xs sl d 51 4 [l0, l1, l2, l3, l4] [s0] H r ↔ Runs xs sl d 51 5 [l0, l1, l2, l3, l4] [.int 0, s0] H r := q_iconst (mo_51 4 rfl) rfl rfl
theorem r51_5 : Runs xs sl (d + 1) 51 5 [l0, l1, l2, l3, l4] [.int u1, .ref b0] H r ↔ ∃ v H1, Runs xs sl d 291 0 [some (.ref b0), some (.int u1), none, none] [] H (v, H1) ∧ Runs xs sl (d + 1) 51 8 [l0, l1, l2, l3, l4] (v.toList ++ []) H1 r := q_callS (M' := 291) (as := [.ref b0, .int u1]) (rest := []) (mo_51 5 rfl) mow_51 rfl mmx_291 rfl (Nat.le_of_ble_eq_true rfl) (Nat.le_of_ble_eq_true rfl) rfl rfl
theorem r51_8 : Runs xs sl d 51 8 [l0, l1, l2, l3, l4] [] H r ↔ Runs xs sl d 51 9 [l0, l1, l2, l3, l4] [.int 0] H r := q_iconst (mo_51 8 rfl) rfl rfl
theorem r51_9 : Runs xs sl d 51 9 [some (.ref a0), l1, l2, l3, l4] [.int u0] H r ↔ Runs xs sl d 51 10 [some (.ref a0), some (.int u0), l2, l3, l4] [] H r := q_istore_n (mo_51 9 rfl) (Nat.le_of_ble_eq_true rfl) rfl rfl
theorem r51_9_1 : Runs xs sl d 51 9 [some .null, l1, l2, l3, l4] [.int u0] H r ↔ Runs xs sl d 51 10 [some .null, some (.int u0), l2, l3, l4] [] H r := q_istore_n (mo_51 9 rfl) (Nat.le_of_ble_eq_true rfl) rfl rfl
theorem r51_10 : Runs xs sl d 51 10 [l0, some (.int i1), l2, l3, l4] [] H r ↔ Runs xs sl d 51 11 [l0, some (.int i1), l2, l3, l4] [.int i1] H r := q_iload_n (mo_51 10 rfl) rfl rfl
theorem r51_11 : Runs xs sl d 51 11 [some (.ref a0), l1, l2, l3, l4] [s0] H r ↔ Runs xs sl d 51 12 [some (.ref a0), l1, l2, l3, l4] [.ref a0, s0] H r := q_aload_n (mo_51 11 rfl) rfl rfl
theorem r51_12 : Runs xs sl d 51 12 [l0, l1, l2, l3, l4] [.ref b1, s0] H r ↔ ∃ v, hO H b1 1 0 = some v ∧ Runs xs sl d 51 15 [l0, l1, l2, l3, l4] [v, s0] H r := q_getf (mo_51 12 rfl) mow_51 rfl rfl
theorem r51_15 : Runs xs sl d 51 15 [l0, l1, l2, l3, l4] [.ref b1, s0] H r ↔ ∃ v, hO H b1 4 2 = some v ∧ Runs xs sl d 51 18 [l0, l1, l2, l3, l4] [v, s0] H r := q_getf (mo_51 15 rfl) mow_51 rfl rfl
theorem r51_18 : Runs xs sl d 51 18 [l0, l1, l2, l3, l4] [.int u1, .int u0] H r ↔ if u1 ≤ u0 then Runs xs sl d 51 111 [l0, l1, l2, l3, l4] [] H r else Runs xs sl d 51 21 [l0, l1, l2, l3, l4] [] H r := q_icmp_ge (mo_51 18 rfl) rfl rfl
theorem r51_21 : Runs xs sl d 51 21 [some (.ref a0), l1, l2, l3, l4] [] H r ↔ Runs xs sl d 51 22 [some (.ref a0), l1, l2, l3, l4] [.ref a0] H r := q_aload_n (mo_51 21 rfl) rfl rfl
theorem r51_22 : Runs xs sl d 51 22 [l0, l1, l2, l3, l4] [.ref b0] H r ↔ ∃ v, hO H b0 1 0 = some v ∧ Runs xs sl d 51 25 [l0, l1, l2, l3, l4] [v] H r := q_getf (mo_51 22 rfl) mow_51 rfl rfl
theorem r51_25 : Runs xs sl d 51 25 [l0, l1, l2, l3, l4] [.ref b0] H r ↔ ∃ v, hO H b0 4 3 = some v ∧ Runs xs sl d 51 28 [l0, l1, l2, l3, l4] [v] H r := q_getf (mo_51 25 rfl) mow_51 rfl rfl
theorem r51_28 : Runs xs sl d 51 28 [l0, some (.int i1), l2, l3, l4] [s0] H r ↔ Runs xs sl d 51 29 [l0, some (.int i1), l2, l3, l4] [.int i1, s0] H r := q_iload_n (mo_51 28 rfl) rfl rfl
theorem r51_29 : Runs xs sl d 51 29 [l0, l1, l2, l3, l4] [s1, s0] H r ↔ Runs xs sl d 51 30 [l0, l1, l2, l3, l4] [.int 3, s1, s0] H r := q_iconst (mo_51 29 rfl) rfl rfl
theorem r51_30 : Runs xs sl d 51 30 [l0, l1, l2, l3, l4] [.int u2, .int u1, s0] H r ↔ Runs xs sl d 51 31 [l0, l1, l2, l3, l4] [.int (u1 * u2), s0] H r := q_imul (mo_51 30 rfl) rfl
theorem r51_31 : Runs xs sl d 51 31 [l0, l1, l2, l3, l4] [s1, s0] H r ↔ Runs xs sl d 51 32 [l0, l1, l2, l3, l4] [.int 1, s1, s0] H r := q_iconst (mo_51 31 rfl) rfl rfl
theorem r51_32 : Runs xs sl d 51 32 [l0, l1, l2, l3, l4] [.int u2, .int u1, s0] H r ↔ Runs xs sl d 51 33 [l0, l1, l2, l3, l4] [.int (u1 + u2), s0] H r := q_iadd (mo_51 32 rfl) rfl
theorem r51_33 : Runs xs sl d 51 33 [l0, l1, l2, l3, l4] [.int u1, .ref b0] H r ↔ ∃ v, hA H b0 0 u1 = some v ∧ Runs xs sl d 51 34 [l0, l1, l2, l3, l4] [.int v] H r := run_iald (mo_51 33 rfl) rfl
theorem r51_34 : Runs xs sl d 51 34 [l0, l1, l2, l3, l4] [s0] H r ↔ Runs xs sl d 51 36 [l0, l1, l2, l3, l4] [.int 7, s0] H r := q_bipush (mo_51 34 rfl) rfl rfl
theorem r51_36 : Runs xs sl d 51 36 [l0, l1, l2, l3, l4] [.int u1, .int u0] H r ↔ Runs xs sl d 51 37 [l0, l1, l2, l3, l4] [.int (u0 * u1)] H r := q_imul (mo_51 36 rfl) rfl
theorem r51_37 : Runs xs sl d 51 37 [l0, some (.int i1), l2, l3, l4] [.int u0] H r ↔ Runs xs sl d 51 38 [l0, some (.int i1), some (.int u0), l3, l4] [] H r := q_istore_n (mo_51 37 rfl) (Nat.le_of_ble_eq_true rfl) rfl rfl
theorem r51_38 : Runs xs sl d 51 38 [l0, l1, l2, l3, l4] [] H r ↔ Runs xs sl d 51 39 [l0, l1, l2, l3, l4] [.int 0] H r := q_iconst (mo_51 38 rfl) rfl rfl
theorem r51_39 : Runs xs sl d 51 39 [l0, l1, some (.int i2), l3, l4] [.int u0] H r ↔ Runs xs sl d 51 40 [l0, l1, some (.int i2), some (.int u0), l4] [] H r := q_istore_n (mo_51 39 rfl) (Nat.le_of_ble_eq_true rfl) rfl rfl
theorem r51_40 : Runs xs sl d 51 40 [l0, l1, l2, some (.int i3), l4] [] H r ↔ Runs xs sl d 51 41 [l0, l1, l2, some (.int i3), l4] [.int i3] H r := q_iload_n (mo_51 40 rfl) rfl rfl
theorem r51_41 : Runs xs sl d 51 41 [l0, l1, l2, l3, l4] [s0] H r ↔ Runs xs sl d 51 43 [l0, l1, l2, l3, l4] [.int 7, s0] H r := q_bipush (mo_51 41 rfl) rfl rfl
theorem r51_43 : Runs xs sl d 51 43 [l0, l1, l2, l3, l4] [.int u1, .int u0] H r ↔ if u1 ≤ u0 then Runs xs sl d 51 105 [l0, l1, l2, l3, l4] [] H r else Runs xs sl d 51 46 [l0, l1, l2, l3, l4] [] H r := q_icmp_ge (mo_51 43 rfl) rfl rfl
theorem r51_46 : Runs xs sl d 51 46 [some (.ref a0), l1, l2, l3, l4] [] H r ↔ Runs xs sl d 51 47 [some (.ref a0), l1, l2, l3, l4] [.ref a0] H r := q_aload_n (mo_51 46 rfl) rfl rfl
theorem r51_47 : Runs xs sl d 51 47 [l0, l1, l2, l3, l4] [.ref b0] H r ↔ ∃ v, hO H b0 1 0 = some v ∧ Runs xs sl d 51 50 [l0, l1, l2, l3, l4] [v] H r := q_getf (mo_51 47 rfl) mow_51 rfl rfl
theorem r51_50 : Runs xs sl d 51 50 [l0, l1, l2, l3, l4] [.ref b0] H r ↔ ∃ v, hO H b0 4 3 = some v ∧ Runs xs sl d 51 53 [l0, l1, l2, l3, l4] [v] H r := q_getf (mo_51 50 rfl) mow_51 rfl rfl
theorem r51_53 : Runs xs sl d 51 53 [l0, some (.int i1), l2, l3, l4] [s0] H r ↔ Runs xs sl d 51 54 [l0, some (.int i1), l2, l3, l4] [.int i1, s0] H r := q_iload_n (mo_51 53 rfl) rfl rfl
theorem r51_54 : Runs xs sl d 51 54 [l0, l1, l2, l3, l4] [s1, s0] H r ↔ Runs xs sl d 51 55 [l0, l1, l2, l3, l4] [.int 3, s1, s0] H r := q_iconst (mo_51 54 rfl) rfl rfl
theorem r51_55 : Runs xs sl d 51 55 [l0, l1, l2, l3, l4] [.int u2, .int u1, s0] H r ↔ Runs xs sl d 51 56 [l0, l1, l2, l3, l4] [.int (u1 * u2), s0] H r := q_imul (mo_51 55 rfl) rfl
theorem r51_56 : Runs xs sl d 51 56 [l0, l1, l2, l3, l4] [.int u1, .ref b0] H r ↔ ∃ v, hA H b0 0 u1 = some v ∧ Runs xs sl d 51 57 [l0, l1, l2, l3, l4] [.int v] H r := run_iald (mo_51 56 rfl) rfl
theorem r51_57 : Runs xs sl d 51 57 [l0, l1, l2, some (.int i3), l4] [s0] H r ↔ Runs xs sl d 51 58 [l0, l1, l2, some (.int i3), l4] [.int i3, s0] H r := q_iload_n (mo_51 57 rfl) rfl rfl
theorem r51_58 : Runs xs sl d 51 58 [l0, l1, l2, l3, l4] [s1, s0] H r ↔ Runs xs sl d 51 59 [l0, l1, l2, l3, l4] [.int 3, s1, s0] H r := q_iconst (mo_51 58 rfl) rfl rfl
theorem r51_59 : Runs xs sl d 51 59 [l0, l1, l2, l3, l4] [.int u2, .int u1, s0] H r ↔ Runs xs sl d 51 60 [l0, l1, l2, l3, l4] [.int (u1 - u2), s0] H r := q_isub (mo_51 59 rfl) rfl
theorem r51_60 : Runs xs sl (d + 1) 51 60 [l0, l1, l2, l3, l4] [.int u1, .int u0] H r ↔ ∃ v H1, Runs xs sl d 14 0 [some (.int u0), some (.int u1)] [] H (v, H1) ∧ Runs xs sl (d + 1) 51 63 [l0, l1, l2, l3, l4] (v.toList ++ []) H1 r := q_callS (M' := 14) (as := [.int u0, .int u1]) (rest := []) (mo_51 60 rfl) mow_51 rfl mmx_14 rfl (Nat.le_of_ble_eq_true rfl) (Nat.le_of_ble_eq_true rfl) rfl rfl
theorem r51_63 : Runs xs sl d 51 63 [l0, l1, l2, some (.int i3), l4] [.int u0] H r ↔ Runs xs sl d 51 65 [l0, l1, l2, some (.int i3), some (.int u0)] [] H r := q_istore (mo_51 63 rfl) (Nat.le_of_ble_eq_true rfl) rfl rfl
theorem r51_65 : Runs xs sl d 51 65 [some (.ref a0), l1, l2, l3, l4] [] H r ↔ Runs xs sl d 51 66 [some (.ref a0), l1, l2, l3, l4] [.ref a0] H r := q_aload_n (mo_51 65 rfl) rfl rfl
theorem r51_66 : Runs xs sl d 51 66 [l0, l1, l2, l3, l4] [.ref b0] H r ↔ ∃ v, hO H b0 1 1 = some v ∧ Runs xs sl d 51 69 [l0, l1, l2, l3, l4] [v] H r := q_getf (mo_51 66 rfl) mow_51 rfl rfl
theorem r51_69 : Runs xs sl d 51 69 [l0, l1, some (.int i2), l3, l4] [s0] H r ↔ Runs xs sl d 51 70 [l0, l1, some (.int i2), l3, l4] [.int i2, s0] H r := q_iload_n (mo_51 69 rfl) rfl rfl
theorem r51_70 : Runs xs sl d 51 70 [l0, l1, l2, some (.int i3), l4] [s1, s0] H r ↔ Runs xs sl d 51 71 [l0, l1, l2, some (.int i3), l4] [.int i3, s1, s0] H r := q_iload_n (mo_51 70 rfl) rfl rfl
theorem r51_71 : Runs xs sl d 51 71 [l0, l1, l2, l3, l4] [.int u2, .int u1, s0] H r ↔ Runs xs sl d 51 72 [l0, l1, l2, l3, l4] [.int (u1 + u2), s0] H r := q_iadd (mo_51 71 rfl) rfl
theorem r51_72 : Runs xs sl d 51 72 [l0, l1, l2, l3, l4] [.int u1, .ref b0] H r ↔ Runs xs sl d 51 73 [l0, l1, l2, l3, l4] [.int u1, .ref b0, .int u1, .ref b0] H r := q_dup2 (mo_51 72 rfl) rfl rfl rfl
theorem r51_73 : Runs xs sl d 51 73 [l0, l1, l2, l3, l4] [.int u3, .ref b2, s1, s0] H r ↔ ∃ v, hA H b2 0 u3 = some v ∧ Runs xs sl d 51 74 [l0, l1, l2, l3, l4] [.int v, s1, s0] H r := run_iald (mo_51 73 rfl) rfl
theorem r51_74 : Runs xs sl d 51 74 [l0, l1, l2, l3, some (.int i4)] [s2, s1, s0] H r ↔ Runs xs sl d 51 76 [l0, l1, l2, l3, some (.int i4)] [.int i4, s2, s1, s0] H r := q_iload (mo_51 74 rfl) rfl rfl
theorem r51_76 : Runs xs sl d 51 76 [some (.ref a0), l1, l2, l3, l4] [s3, s2, s1, s0] H r ↔ Runs xs sl d 51 77 [some (.ref a0), l1, l2, l3, l4] [.ref a0, s3, s2, s1, s0] H r := q_aload_n (mo_51 76 rfl) rfl rfl
theorem r51_77 : Runs xs sl d 51 77 [l0, l1, l2, l3, l4] [.ref b4, s3, s2, s1, s0] H r ↔ ∃ v, hO H b4 1 0 = some v ∧ Runs xs sl d 51 80 [l0, l1, l2, l3, l4] [v, s3, s2, s1, s0] H r := q_getf (mo_51 77 rfl) mow_51 rfl rfl
theorem r51_80 : Runs xs sl d 51 80 [l0, l1, l2, l3, l4] [.ref b4, s3, s2, s1, s0] H r ↔ ∃ v, hO H b4 4 3 = some v ∧ Runs xs sl d 51 83 [l0, l1, l2, l3, l4] [v, s3, s2, s1, s0] H r := q_getf (mo_51 80 rfl) mow_51 rfl rfl
theorem r51_83 : Runs xs sl d 51 83 [l0, some (.int i1), l2, l3, l4] [s4, s3, s2, s1, s0] H r ↔ Runs xs sl d 51 84 [l0, some (.int i1), l2, l3, l4] [.int i1, s4, s3, s2, s1, s0] H r := q_iload_n (mo_51 83 rfl) rfl rfl
theorem r51_84 : Runs xs sl d 51 84 [l0, l1, l2, l3, l4] [s5, s4, s3, s2, s1, s0] H r ↔ Runs xs sl d 51 85 [l0, l1, l2, l3, l4] [.int 3, s5, s4, s3, s2, s1, s0] H r := q_iconst (mo_51 84 rfl) rfl rfl
theorem r51_85 : Runs xs sl d 51 85 [l0, l1, l2, l3, l4] [.int u6, .int u5, s4, s3, s2, s1, s0] H r ↔ Runs xs sl d 51 86 [l0, l1, l2, l3, l4] [.int (u5 * u6), s4, s3, s2, s1, s0] H r := q_imul (mo_51 85 rfl) rfl
theorem r51_86 : Runs xs sl d 51 86 [l0, l1, l2, l3, l4] [s5, s4, s3, s2, s1, s0] H r ↔ Runs xs sl d 51 87 [l0, l1, l2, l3, l4] [.int 2, s5, s4, s3, s2, s1, s0] H r := q_iconst (mo_51 86 rfl) rfl rfl
theorem r51_87 : Runs xs sl d 51 87 [l0, l1, l2, l3, l4] [.int u6, .int u5, s4, s3, s2, s1, s0] H r ↔ Runs xs sl d 51 88 [l0, l1, l2, l3, l4] [.int (u5 + u6), s4, s3, s2, s1, s0] H r := q_iadd (mo_51 87 rfl) rfl
theorem r51_88 : Runs xs sl d 51 88 [l0, l1, l2, l3, l4] [.int u5, .ref b4, s3, s2, s1, s0] H r ↔ ∃ v, hA H b4 0 u5 = some v ∧ Runs xs sl d 51 89 [l0, l1, l2, l3, l4] [.int v, s3, s2, s1, s0] H r := run_iald (mo_51 88 rfl) rfl
theorem r51_89 : Runs xs sl d 51 89 [l0, l1, l2, l3, l4] [.int u4, .int u3, s2, s1, s0] H r ↔ if ¬ u3 = u4 then Runs xs sl d 51 96 [l0, l1, l2, l3, l4] [s2, s1, s0] H r else Runs xs sl d 51 92 [l0, l1, l2, l3, l4] [s2, s1, s0] H r := q_icmp_ne (mo_51 89 rfl) rfl rfl
theorem r51_92 : Runs xs sl d 51 92 [l0, l1, l2, l3, l4] [s2, s1, s0] H r ↔ Runs xs sl d 51 93 [l0, l1, l2, l3, l4] [.int 0, s2, s1, s0] H r := q_iconst (mo_51 92 rfl) rfl rfl
theorem r51_93 : Runs xs sl d 51 93 [l0, l1, l2, l3, l4] [s3, s2, s1, s0] H r ↔ Runs xs sl d 51 97 [l0, l1, l2, l3, l4] [s3, s2, s1, s0] H r := q_goto (mo_51 93 rfl) rfl
theorem r51_96 : Runs xs sl d 51 96 [l0, l1, l2, l3, l4] [s2, s1, s0] H r ↔ Runs xs sl d 51 97 [l0, l1, l2, l3, l4] [.int 1, s2, s1, s0] H r := q_iconst (mo_51 96 rfl) rfl rfl
theorem r51_97 : Runs xs sl d 51 97 [l0, l1, l2, l3, l4] [.int u3, .int u2, s1, s0] H r ↔ Runs xs sl d 51 98 [l0, l1, l2, l3, l4] [.int (u2 + u3), s1, s0] H r := q_iadd (mo_51 97 rfl) rfl
theorem r51_98 : Runs xs sl d 51 98 [l0, l1, l2, l3, l4] [.int u2, .int u1, .ref b0] H r ↔ ∃ H1, hAw H b0 0 u1 u2 = some H1 ∧ Runs xs sl d 51 99 [l0, l1, l2, l3, l4] [] H1 r := run_iast (mo_51 98 rfl) rfl
theorem r51_99 : Runs xs sl d 51 99 [l0, l1, some (.int i2), some (.int i3), l4] [] H r ↔ Runs xs sl d 51 102 [l0, l1, some (.int i2), some (.int (i3 + 1)), l4] [] H r := q_iinc (mo_51 99 rfl) rfl (Nat.le_of_ble_eq_true rfl) rfl rfl
theorem r51_102 : Runs xs sl d 51 102 [l0, l1, l2, l3, l4] [] H r ↔ Runs xs sl d 51 40 [l0, l1, l2, l3, l4] [] H r := q_goto (mo_51 102 rfl) rfl
theorem r51_105 : Runs xs sl d 51 105 [some (.ref a0), some (.int i1), l2, l3, l4] [] H r ↔ Runs xs sl d 51 108 [some (.ref a0), some (.int (i1 + 1)), l2, l3, l4] [] H r := q_iinc (mo_51 105 rfl) rfl (Nat.le_of_ble_eq_true rfl) rfl rfl
theorem r51_105_1 : Runs xs sl d 51 105 [some .null, some (.int i1), l2, l3, l4] [] H r ↔ Runs xs sl d 51 108 [some .null, some (.int (i1 + 1)), l2, l3, l4] [] H r := q_iinc (mo_51 105 rfl) rfl (Nat.le_of_ble_eq_true rfl) rfl rfl
theorem r51_108 : Runs xs sl d 51 108 [l0, l1, l2, l3, l4] [] H r ↔ Runs xs sl d 51 10 [l0, l1, l2, l3, l4] [] H r := q_goto (mo_51 108 rfl) rfl
theorem r51_111 : Runs xs sl d 51 111 [l0, l1, l2, l3, l4] [] H r ↔ r = (none, H) := q_ret (mo_51 111 rfl) mrt_51
theorem r52_0 : Runs xs sl d 52 0 [some (.ref a0), l1, l2] [] H r ↔ Runs xs sl d 52 1 [some (.ref a0), l1, l2] [.ref a0] H r := q_aload_n (mo_52 0 rfl) rfl rfl
theorem r52_1 : Runs xs sl d 52 1 [l0, l1, l2] [.ref b0] H r ↔ ∃ v, hO H b0 1 3 = some v ∧ Runs xs sl d 52 4 [l0, l1, l2] [v] H r := q_getf (mo_52 1 rfl) mow_52 rfl rfl
theorem r52_4 : Runs xs sl d 52 4 [l0, l1, l2] [s0] H r ↔ Runs xs sl d 52 5 [l0, l1, l2] [.int 0, s0] H r := q_iconst (mo_52 4 rfl) rfl rfl
theorem r52_5 : Runs xs sl (d + 1) 52 5 [l0, l1, l2] [.int u1, .ref b0] H r ↔ ∃ v H1, Runs xs sl d 291 0 [some (.ref b0), some (.int u1), none, none] [] H (v, H1) ∧ Runs xs sl (d + 1) 52 8 [l0, l1, l2] (v.toList ++ []) H1 r := q_callS (M' := 291) (as := [.ref b0, .int u1]) (rest := []) (mo_52 5 rfl) mow_52 rfl mmx_291 rfl (Nat.le_of_ble_eq_true rfl) (Nat.le_of_ble_eq_true rfl) rfl rfl
theorem r52_8 : Runs xs sl d 52 8 [some (.ref a0), l1, l2] [] H r ↔ Runs xs sl d 52 9 [some (.ref a0), l1, l2] [.ref a0] H r := q_aload_n (mo_52 8 rfl) rfl rfl
theorem r52_9 : Runs xs sl d 52 9 [l0, l1, l2] [.ref b0] H r ↔ ∃ v, hO H b0 1 3 = some v ∧ Runs xs sl d 52 12 [l0, l1, l2] [v] H r := q_getf (mo_52 9 rfl) mow_52 rfl rfl
theorem r52_12 : Runs xs sl d 52 12 [l0, l1, l2] [s0] H r ↔ Runs xs sl d 52 13 [l0, l1, l2] [.int 0, s0] H r := q_iconst (mo_52 12 rfl) rfl rfl
theorem r52_13 : Runs xs sl d 52 13 [l0, l1, l2] [s1, s0] H r ↔ Runs xs sl d 52 14 [l0, l1, l2] [.int 1, s1, s0] H r := q_iconst (mo_52 13 rfl) rfl rfl
theorem r52_14 : Runs xs sl d 52 14 [l0, l1, l2] [.int u2, .int u1, .ref b0] H r ↔ ∃ H1, hAw H b0 0 u1 u2 = some H1 ∧ Runs xs sl d 52 15 [l0, l1, l2] [] H1 r := run_iast (mo_52 14 rfl) rfl
theorem r52_15 : Runs xs sl d 52 15 [l0, l1, l2] [] H r ↔ Runs xs sl d 52 16 [l0, l1, l2] [.int 0] H r := q_iconst (mo_52 15 rfl) rfl rfl
theorem r52_16 : Runs xs sl d 52 16 [l0, some (.int i1), l2] [.int u0] H r ↔ Runs xs sl d 52 17 [l0, some (.int i1), some (.int u0)] [] H r := q_istore_n (mo_52 16 rfl) (Nat.le_of_ble_eq_true rfl) rfl rfl
theorem r52_17 : Runs xs sl d 52 17 [l0, l1, some (.int i2)] [] H r ↔ Runs xs sl d 52 18 [l0, l1, some (.int i2)] [.int i2] H r := q_iload_n (mo_52 17 rfl) rfl rfl
theorem r52_18 : Runs xs sl d 52 18 [some (.ref a0), l1, l2] [s0] H r ↔ Runs xs sl d 52 19 [some (.ref a0), l1, l2] [.ref a0, s0] H r := q_aload_n (mo_52 18 rfl) rfl rfl
theorem r52_19 : Runs xs sl d 52 19 [l0, l1, l2] [.ref b1, s0] H r ↔ ∃ v, hO H b1 1 0 = some v ∧ Runs xs sl d 52 22 [l0, l1, l2] [v, s0] H r := q_getf (mo_52 19 rfl) mow_52 rfl rfl
theorem r52_22 : Runs xs sl d 52 22 [l0, l1, l2] [.ref b1, s0] H r ↔ ∃ v, hO H b1 4 0 = some v ∧ Runs xs sl d 52 25 [l0, l1, l2] [v, s0] H r := q_getf (mo_52 22 rfl) mow_52 rfl rfl
theorem r52_25 : Runs xs sl d 52 25 [l0, l1, l2] [.int u1, .int u0] H r ↔ if u1 ≤ u0 then Runs xs sl d 52 44 [l0, l1, l2] [] H r else Runs xs sl d 52 28 [l0, l1, l2] [] H r := q_icmp_ge (mo_52 25 rfl) rfl rfl
theorem r52_28 : Runs xs sl d 52 28 [l0, l1, some (.int i2)] [] H r ↔ Runs xs sl d 52 29 [l0, l1, some (.int i2)] [.int i2] H r := q_iload_n (mo_52 28 rfl) rfl rfl
theorem r52_29 : Runs xs sl d 52 29 [l0, some (.int i1), l2] [s0] H r ↔ Runs xs sl d 52 30 [l0, some (.int i1), l2] [.int i1, s0] H r := q_iload_n (mo_52 29 rfl) rfl rfl
theorem r52_30 : Runs xs sl d 52 30 [l0, l1, l2] [.int u1, .int u0] H r ↔ if u0 = u1 then Runs xs sl d 52 38 [l0, l1, l2] [] H r else Runs xs sl d 52 33 [l0, l1, l2] [] H r := q_icmp_eq (mo_52 30 rfl) rfl rfl
theorem r52_33 : Runs xs sl d 52 33 [some (.ref a0), l1, l2] [] H r ↔ Runs xs sl d 52 34 [some (.ref a0), l1, l2] [.ref a0] H r := q_aload_n (mo_52 33 rfl) rfl rfl
theorem r52_34 : Runs xs sl d 52 34 [l0, l1, some (.int i2)] [s0] H r ↔ Runs xs sl d 52 35 [l0, l1, some (.int i2)] [.int i2, s0] H r := q_iload_n (mo_52 34 rfl) rfl rfl
theorem r52_35 (hc : hC H b0 = some 1) : Runs xs sl (d + 1) 52 35 [l0, l1, l2] [.int u1, .ref b0] H r ↔ ∃ v H1, Runs xs sl d 53 0 [some (.ref b0), some (.int u1), none, none] [] H (v, H1) ∧ Runs xs sl (d + 1) 52 38 [l0, l1, l2] (v.toList ++ []) H1 r := q_callV (M' := 53) (as := [.int u1]) (rest := []) (mo_52 35 rfl) mow_52 rfl mcs_53 mmx_53 rfl (Nat.le_of_ble_eq_true rfl) (Nat.le_of_ble_eq_true rfl) rfl rfl hc
theorem r52_38 : Runs xs sl d 52 38 [l0, some (.int i1), some (.int i2)] [] H r ↔ Runs xs sl d 52 41 [l0, some (.int i1), some (.int (i2 + 1))] [] H r := q_iinc (mo_52 38 rfl) rfl (Nat.le_of_ble_eq_true rfl) rfl rfl
theorem r52_41 : Runs xs sl d 52 41 [l0, l1, l2] [] H r ↔ Runs xs sl d 52 17 [l0, l1, l2] [] H r := q_goto (mo_52 41 rfl) rfl
theorem r52_44 : Runs xs sl d 52 44 [l0, l1, l2] [] H r ↔ r = (none, H) := q_ret (mo_52 44 rfl) mrt_52
theorem r53_0 : Runs xs sl d 53 0 [some (.ref a0), l1, l2, l3] [] H r ↔ Runs xs sl d 53 1 [some (.ref a0), l1, l2, l3] [.ref a0] H r := q_aload_n (mo_53 0 rfl) rfl rfl
theorem r53_1 : Runs xs sl d 53 1 [l0, l1, l2, l3] [.ref b0] H r ↔ ∃ v, hO H b0 1 4 = some v ∧ Runs xs sl d 53 4 [l0, l1, l2, l3] [v] H r := q_getf (mo_53 1 rfl) mow_53 rfl rfl
theorem r53_4 : Runs xs sl d 53 4 [l0, l1, l2, l3] [s0] H r ↔ Runs xs sl d 53 5 [l0, l1, l2, l3] [.int 0, s0] H r := q_iconst (mo_53 4 rfl) rfl rfl
theorem r53_5 : Runs xs sl (d + 1) 53 5 [l0, l1, l2, l3] [.int u1, .ref b0] H r ↔ ∃ v H1, Runs xs sl d 291 0 [some (.ref b0), some (.int u1), none, none] [] H (v, H1) ∧ Runs xs sl (d + 1) 53 8 [l0, l1, l2, l3] (v.toList ++ []) H1 r := q_callS (M' := 291) (as := [.ref b0, .int u1]) (rest := []) (mo_53 5 rfl) mow_53 rfl mmx_291 rfl (Nat.le_of_ble_eq_true rfl) (Nat.le_of_ble_eq_true rfl) rfl rfl
theorem r53_8 : Runs xs sl d 53 8 [l0, some (.int i1), l2, l3] [] H r ↔ Runs xs sl d 53 9 [l0, some (.int i1), l2, l3] [.int i1] H r := q_iload_n (mo_53 8 rfl) rfl rfl
theorem r53_9 : Runs xs sl d 53 9 [l0, l1, l2, l3] [s0] H r ↔ Runs xs sl d 53 11 [l0, l1, l2, l3] [.int 7, s0] H r := q_bipush (mo_53 9 rfl) rfl rfl
theorem r53_11 : Runs xs sl d 53 11 [l0, l1, l2, l3] [.int u1, .int u0] H r ↔ Runs xs sl d 53 12 [l0, l1, l2, l3] [.int (u0 * u1)] H r := q_imul (mo_53 11 rfl) rfl
theorem r53_12 : Runs xs sl d 53 12 [l0, some (.int i1), l2, l3] [.int u0] H r ↔ Runs xs sl d 53 13 [l0, some (.int i1), some (.int u0), l3] [] H r := q_istore_n (mo_53 12 rfl) (Nat.le_of_ble_eq_true rfl) rfl rfl
theorem r53_13 : Runs xs sl d 53 13 [l0, l1, some (.int i2), l3] [] H r ↔ Runs xs sl d 53 14 [l0, l1, some (.int i2), l3] [.int i2] H r := q_iload_n (mo_53 13 rfl) rfl rfl
theorem r53_14 : Runs xs sl d 53 14 [l0, some (.int i1), l2, l3] [s0] H r ↔ Runs xs sl d 53 15 [l0, some (.int i1), l2, l3] [.int i1, s0] H r := q_iload_n (mo_53 14 rfl) rfl rfl
theorem r53_15 : Runs xs sl d 53 15 [l0, l1, l2, l3] [s1, s0] H r ↔ Runs xs sl d 53 16 [l0, l1, l2, l3] [.int 1, s1, s0] H r := q_iconst (mo_53 15 rfl) rfl rfl
theorem r53_16 : Runs xs sl d 53 16 [l0, l1, l2, l3] [.int u2, .int u1, s0] H r ↔ Runs xs sl d 53 17 [l0, l1, l2, l3] [.int (u1 + u2), s0] H r := q_iadd (mo_53 16 rfl) rfl
theorem r53_17 : Runs xs sl d 53 17 [l0, l1, l2, l3] [s1, s0] H r ↔ Runs xs sl d 53 19 [l0, l1, l2, l3] [.int 7, s1, s0] H r := q_bipush (mo_53 17 rfl) rfl rfl
theorem r53_19 : Runs xs sl d 53 19 [l0, l1, l2, l3] [.int u2, .int u1, s0] H r ↔ Runs xs sl d 53 20 [l0, l1, l2, l3] [.int (u1 * u2), s0] H r := q_imul (mo_53 19 rfl) rfl
theorem r53_20 : Runs xs sl d 53 20 [l0, l1, l2, l3] [.int u1, .int u0] H r ↔ if u1 ≤ u0 then Runs xs sl d 53 72 [l0, l1, l2, l3] [] H r else Runs xs sl d 53 23 [l0, l1, l2, l3] [] H r := q_icmp_ge (mo_53 20 rfl) rfl rfl
theorem r53_23 : Runs xs sl d 53 23 [l0, l1, l2, l3] [] H r ↔ Runs xs sl d 53 24 [l0, l1, l2, l3] [.int 0] H r := q_iconst (mo_53 23 rfl) rfl rfl
theorem r53_24 : Runs xs sl d 53 24 [l0, l1, some (.int i2), l3] [.int u0] H r ↔ Runs xs sl d 53 25 [l0, l1, some (.int i2), some (.int u0)] [] H r := q_istore_n (mo_53 24 rfl) (Nat.le_of_ble_eq_true rfl) rfl rfl
theorem r53_25 : Runs xs sl d 53 25 [l0, l1, l2, some (.int i3)] [] H r ↔ Runs xs sl d 53 26 [l0, l1, l2, some (.int i3)] [.int i3] H r := q_iload_n (mo_53 25 rfl) rfl rfl
theorem r53_26 : Runs xs sl d 53 26 [some (.ref a0), l1, l2, l3] [s0] H r ↔ Runs xs sl d 53 27 [some (.ref a0), l1, l2, l3] [.ref a0, s0] H r := q_aload_n (mo_53 26 rfl) rfl rfl
theorem r53_27 : Runs xs sl d 53 27 [l0, l1, l2, l3] [.ref b1, s0] H r ↔ ∃ v, hO H b1 1 1 = some v ∧ Runs xs sl d 53 30 [l0, l1, l2, l3] [v, s0] H r := q_getf (mo_53 27 rfl) mow_53 rfl rfl
theorem r53_30 : Runs xs sl d 53 30 [l0, l1, some (.int i2), l3] [s1, s0] H r ↔ Runs xs sl d 53 31 [l0, l1, some (.int i2), l3] [.int i2, s1, s0] H r := q_iload_n (mo_53 30 rfl) rfl rfl
theorem r53_31 : Runs xs sl d 53 31 [l0, l1, l2, l3] [.int u2, .ref b1, s0] H r ↔ ∃ v, hA H b1 0 u2 = some v ∧ Runs xs sl d 53 32 [l0, l1, l2, l3] [.int v, s0] H r := run_iald (mo_53 31 rfl) rfl
theorem r53_32 : Runs xs sl d 53 32 [l0, l1, l2, l3] [.int u1, .int u0] H r ↔ Runs xs sl d 53 33 [l0, l1, l2, l3] [.int (u0 + u1)] H r := q_iadd (mo_53 32 rfl) rfl
theorem r53_33 : Runs xs sl d 53 33 [l0, l1, l2, l3] [s0] H r ↔ Runs xs sl d 53 35 [l0, l1, l2, l3] [.int 12, s0] H r := q_bipush (mo_53 33 rfl) rfl rfl
theorem r53_35 : Runs xs sl d 53 35 [l0, l1, l2, l3] [.int u1, .int u0] H r ↔ if u1 < u0 then Runs xs sl d 53 66 [l0, l1, l2, l3] [] H r else Runs xs sl d 53 38 [l0, l1, l2, l3] [] H r := q_icmp_gt (mo_53 35 rfl) rfl rfl
theorem r53_38 : Runs xs sl d 53 38 [some (.ref a0), l1, l2, l3] [] H r ↔ Runs xs sl d 53 39 [some (.ref a0), l1, l2, l3] [.ref a0] H r := q_aload_n (mo_53 38 rfl) rfl rfl
theorem r53_39 : Runs xs sl d 53 39 [l0, l1, l2, l3] [.ref b0] H r ↔ ∃ v, hO H b0 1 4 = some v ∧ Runs xs sl d 53 42 [l0, l1, l2, l3] [v] H r := q_getf (mo_53 39 rfl) mow_53 rfl rfl
theorem r53_42 : Runs xs sl d 53 42 [l0, l1, l2, some (.int i3)] [s0] H r ↔ Runs xs sl d 53 43 [l0, l1, l2, some (.int i3)] [.int i3, s0] H r := q_iload_n (mo_53 42 rfl) rfl rfl
theorem r53_43 : Runs xs sl d 53 43 [some (.ref a0), l1, l2, l3] [s1, s0] H r ↔ Runs xs sl d 53 44 [some (.ref a0), l1, l2, l3] [.ref a0, s1, s0] H r := q_aload_n (mo_53 43 rfl) rfl rfl
theorem r53_44 : Runs xs sl d 53 44 [l0, l1, l2, l3] [.ref b2, s1, s0] H r ↔ ∃ v, hO H b2 1 1 = some v ∧ Runs xs sl d 53 47 [l0, l1, l2, l3] [v, s1, s0] H r := q_getf (mo_53 44 rfl) mow_53 rfl rfl
theorem r53_47 : Runs xs sl d 53 47 [l0, l1, some (.int i2), l3] [s2, s1, s0] H r ↔ Runs xs sl d 53 48 [l0, l1, some (.int i2), l3] [.int i2, s2, s1, s0] H r := q_iload_n (mo_53 47 rfl) rfl rfl
theorem r53_48 : Runs xs sl d 53 48 [l0, l1, l2, l3] [.int u3, .ref b2, s1, s0] H r ↔ ∃ v, hA H b2 0 u3 = some v ∧ Runs xs sl d 53 49 [l0, l1, l2, l3] [.int v, s1, s0] H r := run_iald (mo_53 48 rfl) rfl
theorem r53_49 : Runs xs sl d 53 49 [l0, l1, l2, l3] [.int u2, .int u1, s0] H r ↔ Runs xs sl d 53 50 [l0, l1, l2, l3] [.int (u1 + u2), s0] H r := q_iadd (mo_53 49 rfl) rfl
theorem r53_50 : Runs xs sl d 53 50 [l0, l1, l2, l3] [.int u1, .ref b0] H r ↔ Runs xs sl d 53 51 [l0, l1, l2, l3] [.int u1, .ref b0, .int u1, .ref b0] H r := q_dup2 (mo_53 50 rfl) rfl rfl rfl
theorem r53_51 : Runs xs sl d 53 51 [l0, l1, l2, l3] [.int u3, .ref b2, s1, s0] H r ↔ ∃ v, hA H b2 0 u3 = some v ∧ Runs xs sl d 53 52 [l0, l1, l2, l3] [.int v, s1, s0] H r := run_iald (mo_53 51 rfl) rfl
theorem r53_52 : Runs xs sl d 53 52 [some (.ref a0), l1, l2, l3] [s2, s1, s0] H r ↔ Runs xs sl d 53 53 [some (.ref a0), l1, l2, l3] [.ref a0, s2, s1, s0] H r := q_aload_n (mo_53 52 rfl) rfl rfl
theorem r53_53 : Runs xs sl d 53 53 [l0, l1, l2, l3] [.ref b3, s2, s1, s0] H r ↔ ∃ v, hO H b3 1 3 = some v ∧ Runs xs sl d 53 56 [l0, l1, l2, l3] [v, s2, s1, s0] H r := q_getf (mo_53 53 rfl) mow_53 rfl rfl
theorem r53_56 : Runs xs sl d 53 56 [l0, l1, l2, some (.int i3)] [s3, s2, s1, s0] H r ↔ Runs xs sl d 53 57 [l0, l1, l2, some (.int i3)] [.int i3, s3, s2, s1, s0] H r := q_iload_n (mo_53 56 rfl) rfl rfl
theorem r53_57 : Runs xs sl d 53 57 [l0, l1, l2, l3] [.int u4, .ref b3, s2, s1, s0] H r ↔ ∃ v, hA H b3 0 u4 = some v ∧ Runs xs sl d 53 58 [l0, l1, l2, l3] [.int v, s2, s1, s0] H r := run_iald (mo_53 57 rfl) rfl
theorem r53_58 : Runs xs sl d 53 58 [l0, l1, l2, l3] [.int u3, .int u2, s1, s0] H r ↔ Runs xs sl d 53 59 [l0, l1, l2, l3] [.int (u2 + u3), s1, s0] H r := q_iadd (mo_53 58 rfl) rfl
theorem r53_59 : Runs xs sl d 53 59 [l0, l1, l2, l3] [.int u2, .int u1, .ref b0] H r ↔ ∃ H1, hAw H b0 0 u1 u2 = some H1 ∧ Runs xs sl d 53 60 [l0, l1, l2, l3] [] H1 r := run_iast (mo_53 59 rfl) rfl
theorem r53_60 : Runs xs sl d 53 60 [l0, l1, some (.int i2), some (.int i3)] [] H r ↔ Runs xs sl d 53 63 [l0, l1, some (.int i2), some (.int (i3 + 1))] [] H r := q_iinc (mo_53 60 rfl) rfl (Nat.le_of_ble_eq_true rfl) rfl rfl
theorem r53_63 : Runs xs sl d 53 63 [l0, l1, l2, l3] [] H r ↔ Runs xs sl d 53 25 [l0, l1, l2, l3] [] H r := q_goto (mo_53 63 rfl) rfl
theorem r53_66 : Runs xs sl d 53 66 [l0, some (.int i1), some (.int i2), l3] [] H r ↔ Runs xs sl d 53 69 [l0, some (.int i1), some (.int (i2 + 1)), l3] [] H r := q_iinc (mo_53 66 rfl) rfl (Nat.le_of_ble_eq_true rfl) rfl rfl
theorem r53_69 : Runs xs sl d 53 69 [l0, l1, l2, l3] [] H r ↔ Runs xs sl d 53 13 [l0, l1, l2, l3] [] H r := q_goto (mo_53 69 rfl) rfl
theorem r53_72 : Runs xs sl d 53 72 [some (.ref a0), l1, l2, l3] [] H r ↔ Runs xs sl d 53 73 [some (.ref a0), l1, l2, l3] [.ref a0] H r := q_aload_n (mo_53 72 rfl) rfl rfl
theorem r53_73 : Runs xs sl d 53 73 [l0, l1, l2, l3] [.ref b0] H r ↔ ∃ v, hO H b0 1 3 = some v ∧ Runs xs sl d 53 76 [l0, l1, l2, l3] [v] H r := q_getf (mo_53 73 rfl) mow_53 rfl rfl
theorem r53_76 : Runs xs sl d 53 76 [l0, some (.int i1), l2, l3] [.ref b0] H r ↔ Runs xs sl d 53 77 [l0, some (.int i1), some (.ref b0), l3] [] H r := q_astore_n (mo_53 76 rfl) (Nat.le_of_ble_eq_true rfl) rfl rfl
theorem r53_76n : Runs xs sl d 53 76 [l0, some (.int i1), l2, l3] [.null] H r ↔ Runs xs sl d 53 77 [l0, some (.int i1), some .null, l3] [] H r := q_astore_nN (mo_53 76 rfl) (Nat.le_of_ble_eq_true rfl) rfl rfl
theorem r53_77 : Runs xs sl d 53 77 [some (.ref a0), l1, l2, l3] [] H r ↔ Runs xs sl d 53 78 [some (.ref a0), l1, l2, l3] [.ref a0] H r := q_aload_n (mo_53 77 rfl) rfl rfl
theorem r53_78 : Runs xs sl d 53 78 [some (.ref a0), l1, l2, l3] [s0] H r ↔ Runs xs sl d 53 79 [some (.ref a0), l1, l2, l3] [.ref a0, s0] H r := q_aload_n (mo_53 78 rfl) rfl rfl
theorem r53_79 : Runs xs sl d 53 79 [l0, l1, l2, l3] [.ref b1, s0] H r ↔ ∃ v, hO H b1 1 4 = some v ∧ Runs xs sl d 53 82 [l0, l1, l2, l3] [v, s0] H r := q_getf (mo_53 79 rfl) mow_53 rfl rfl
theorem r53_82 : Runs xs sl d 53 82 [l0, l1, l2, l3] [.ref b1, .ref b0] H r ↔ ∃ H1, hOw H b0 1 3 (.ref b1) = some H1 ∧ Runs xs sl d 53 85 [l0, l1, l2, l3] [] H1 r := q_putf (mo_53 82 rfl) mow_53 rfl rfl (by decide +kernel) rfl
theorem r53_85 : Runs xs sl d 53 85 [some (.ref a0), l1, l2, l3] [] H r ↔ Runs xs sl d 53 86 [some (.ref a0), l1, l2, l3] [.ref a0] H r := q_aload_n (mo_53 85 rfl) rfl rfl
theorem r53_86 : Runs xs sl d 53 86 [l0, l1, some (.ref a2), l3] [s0] H r ↔ Runs xs sl d 53 87 [l0, l1, some (.ref a2), l3] [.ref a2, s0] H r := q_aload_n (mo_53 86 rfl) rfl rfl
theorem r53_86n : Runs xs sl d 53 86 [l0, l1, some .null, l3] [s0] H r ↔ Runs xs sl d 53 87 [l0, l1, some .null, l3] [.null, s0] H r := q_aload_nN (mo_53 86 rfl) rfl rfl
theorem r53_87 : Runs xs sl d 53 87 [l0, l1, l2, l3] [.ref b1, .ref b0] H r ↔ ∃ H1, hOw H b0 1 4 (.ref b1) = some H1 ∧ Runs xs sl d 53 90 [l0, l1, l2, l3] [] H1 r := q_putf (mo_53 87 rfl) mow_53 rfl rfl (by decide +kernel) rfl
theorem r53_90 : Runs xs sl d 53 90 [l0, l1, l2, l3] [] H r ↔ r = (none, H) := q_ret (mo_53 90 rfl) mrt_53
theorem r54_0 : Runs xs sl d 54 0 [l0, some (.int i1)] [] H r ↔ Runs xs sl d 54 1 [l0, some (.int i1)] [.int i1] H r := q_iload_n (mo_54 0 rfl) rfl rfl
theorem r54_1_c0 : Runs xs sl d 54 1 [l0, l1] [.int 0] H r ↔ Runs xs sl d 54 28 [l0, l1] [] H r := q_tsw (off := 27) (mo_54 1 rfl) rfl rfl
theorem r54_1_c1 : Runs xs sl d 54 1 [l0, l1] [.int 1] H r ↔ Runs xs sl d 54 33 [l0, l1] [] H r := q_tsw (off := 32) (mo_54 1 rfl) rfl rfl
theorem r54_1_c2 : Runs xs sl d 54 1 [l0, l1] [.int 2] H r ↔ Runs xs sl d 54 38 [l0, l1] [] H r := q_tsw (off := 37) (mo_54 1 rfl) rfl rfl
theorem r54_1_d (h : u0.toInt < 0 ∨ 2 < u0.toInt) : Runs xs sl d 54 1 [l0, l1] [.int u0] H r ↔ Runs xs sl d 54 55 [l0, l1] [] H r := q_tswD (mo_54 1 rfl) rfl h
theorem r54_28 : Runs xs sl d 54 28 [some (.ref a0), l1] [] H r ↔ Runs xs sl d 54 29 [some (.ref a0), l1] [.ref a0] H r := q_aload_n (mo_54 28 rfl) rfl rfl
theorem r54_29 (hc : hC H b0 = some 1) : Runs xs sl (d + 1) 54 29 [l0, l1] [.ref b0] H r ↔ ∃ v H1, Runs xs sl d 55 0 [some (.ref b0), none, none] [] H (v, H1) ∧ Runs xs sl (d + 1) 54 32 [l0, l1] (v.toList ++ []) H1 r := q_callV (M' := 55) (as := []) (rest := []) (mo_54 29 rfl) mow_54 rfl mcs_55 mmx_55 rfl (Nat.le_of_ble_eq_true rfl) (Nat.le_of_ble_eq_true rfl) rfl rfl hc
theorem r54_32 : Runs xs sl d 54 32 [l0, l1] [.int u0] H r ↔ r = (some (.int u0), H) := q_iret (mo_54 32 rfl) mrt_54
theorem r54_33 : Runs xs sl d 54 33 [some (.ref a0), l1] [] H r ↔ Runs xs sl d 54 34 [some (.ref a0), l1] [.ref a0] H r := q_aload_n (mo_54 33 rfl) rfl rfl
theorem r54_34 (hc : hC H b0 = some 1) : Runs xs sl (d + 1) 54 34 [l0, l1] [.ref b0] H r ↔ ∃ v H1, Runs xs sl d 56 0 [some (.ref b0), none, none, none, none] [] H (v, H1) ∧ Runs xs sl (d + 1) 54 37 [l0, l1] (v.toList ++ []) H1 r := q_callV (M' := 56) (as := []) (rest := []) (mo_54 34 rfl) mow_54 rfl mcs_56 mmx_56 rfl (Nat.le_of_ble_eq_true rfl) (Nat.le_of_ble_eq_true rfl) rfl rfl hc
theorem r54_37 : Runs xs sl d 54 37 [l0, l1] [.int u0] H r ↔ r = (some (.int u0), H) := q_iret (mo_54 37 rfl) mrt_54
theorem r54_38 : Runs xs sl d 54 38 [some (.ref a0), l1] [] H r ↔ Runs xs sl d 54 39 [some (.ref a0), l1] [.ref a0] H r := q_aload_n (mo_54 38 rfl) rfl rfl
theorem r54_39 (hc : hC H b0 = some 1) : Runs xs sl (d + 1) 54 39 [l0, l1] [.ref b0] H r ↔ ∃ v H1, Runs xs sl d 55 0 [some (.ref b0), none, none] [] H (v, H1) ∧ Runs xs sl (d + 1) 54 42 [l0, l1] (v.toList ++ []) H1 r := q_callV (M' := 55) (as := []) (rest := []) (mo_54 39 rfl) mow_54 rfl mcs_55 mmx_55 rfl (Nat.le_of_ble_eq_true rfl) (Nat.le_of_ble_eq_true rfl) rfl rfl hc
theorem r54_42 : Runs xs sl d 54 42 [l0, l1] [.int u0] H r ↔ if ¬ u0 = 0 then Runs xs sl d 54 50 [l0, l1] [] H r else Runs xs sl d 54 45 [l0, l1] [] H r := q_if_ne (mo_54 42 rfl) rfl rfl
theorem r54_45 : Runs xs sl d 54 45 [l0, l1] [] H r ↔ Runs xs sl d 54 47 [l0, l1] [.int (-9)] H r := q_bipush (mo_54 45 rfl) rfl rfl
theorem r54_47 : Runs xs sl d 54 47 [l0, l1] [s0] H r ↔ Runs xs sl d 54 54 [l0, l1] [s0] H r := q_goto (mo_54 47 rfl) rfl
theorem r54_50 : Runs xs sl d 54 50 [some (.ref a0), l1] [] H r ↔ Runs xs sl d 54 51 [some (.ref a0), l1] [.ref a0] H r := q_aload_n (mo_54 50 rfl) rfl rfl
theorem r54_51 (hc : hC H b0 = some 1) : Runs xs sl (d + 1) 54 51 [l0, l1] [.ref b0] H r ↔ ∃ v H1, Runs xs sl d 57 0 [some (.ref b0), none, none, none, none, none] [] H (v, H1) ∧ Runs xs sl (d + 1) 54 54 [l0, l1] (v.toList ++ []) H1 r := q_callV (M' := 57) (as := []) (rest := []) (mo_54 51 rfl) mow_54 rfl mcs_57 mmx_57 rfl (Nat.le_of_ble_eq_true rfl) (Nat.le_of_ble_eq_true rfl) rfl rfl hc
theorem r54_54 : Runs xs sl d 54 54 [l0, l1] [.int u0] H r ↔ r = (some (.int u0), H) := q_iret (mo_54 54 rfl) mrt_54
theorem r54_55 : Runs xs sl d 54 55 [l0, l1] [] H r ↔ Runs xs sl d 54 57 [l0, l1] [.int (-9)] H r := q_bipush (mo_54 55 rfl) rfl rfl
theorem r54_57 : Runs xs sl d 54 57 [l0, l1] [.int u0] H r ↔ r = (some (.int u0), H) := q_iret (mo_54 57 rfl) mrt_54
theorem r55_0 : Runs xs sl d 55 0 [l0, l1, l2] [] H r ↔ Runs xs sl d 55 1 [l0, l1, l2] [.int 0] H r := q_iconst (mo_55 0 rfl) rfl rfl
theorem r55_1 : Runs xs sl d 55 1 [some (.ref a0), l1, l2] [.int u0] H r ↔ Runs xs sl d 55 2 [some (.ref a0), some (.int u0), l2] [] H r := q_istore_n (mo_55 1 rfl) (Nat.le_of_ble_eq_true rfl) rfl rfl
theorem r55_1_1 : Runs xs sl d 55 1 [some .null, l1, l2] [.int u0] H r ↔ Runs xs sl d 55 2 [some .null, some (.int u0), l2] [] H r := q_istore_n (mo_55 1 rfl) (Nat.le_of_ble_eq_true rfl) rfl rfl
theorem r55_2 : Runs xs sl d 55 2 [l0, l1, l2] [] H r ↔ Runs xs sl d 55 3 [l0, l1, l2] [.int 0] H r := q_iconst (mo_55 2 rfl) rfl rfl
theorem r55_3 : Runs xs sl d 55 3 [l0, some (.int i1), l2] [.int u0] H r ↔ Runs xs sl d 55 4 [l0, some (.int i1), some (.int u0)] [] H r := q_istore_n (mo_55 3 rfl) (Nat.le_of_ble_eq_true rfl) rfl rfl
theorem r55_4 : Runs xs sl d 55 4 [l0, l1, some (.int i2)] [] H r ↔ Runs xs sl d 55 5 [l0, l1, some (.int i2)] [.int i2] H r := q_iload_n (mo_55 4 rfl) rfl rfl
theorem r55_5 : Runs xs sl d 55 5 [l0, l1, l2] [s0] H r ↔ Runs xs sl d 55 7 [l0, l1, l2] [.int 7, s0] H r := q_bipush (mo_55 5 rfl) rfl rfl
theorem r55_7 : Runs xs sl d 55 7 [l0, l1, l2] [.int u1, .int u0] H r ↔ if u1 ≤ u0 then Runs xs sl d 55 25 [l0, l1, l2] [] H r else Runs xs sl d 55 10 [l0, l1, l2] [] H r := q_icmp_ge (mo_55 7 rfl) rfl rfl
theorem r55_10 : Runs xs sl d 55 10 [l0, some (.int i1), l2] [] H r ↔ Runs xs sl d 55 11 [l0, some (.int i1), l2] [.int i1] H r := q_iload_n (mo_55 10 rfl) rfl rfl
theorem r55_11 : Runs xs sl d 55 11 [some (.ref a0), l1, l2] [s0] H r ↔ Runs xs sl d 55 12 [some (.ref a0), l1, l2] [.ref a0, s0] H r := q_aload_n (mo_55 11 rfl) rfl rfl
theorem r55_12 : Runs xs sl d 55 12 [l0, l1, l2] [.ref b1, s0] H r ↔ ∃ v, hO H b1 1 2 = some v ∧ Runs xs sl d 55 15 [l0, l1, l2] [v, s0] H r := q_getf (mo_55 12 rfl) mow_55 rfl rfl
theorem r55_15 : Runs xs sl d 55 15 [l0, l1, some (.int i2)] [s1, s0] H r ↔ Runs xs sl d 55 16 [l0, l1, some (.int i2)] [.int i2, s1, s0] H r := q_iload_n (mo_55 15 rfl) rfl rfl
theorem r55_16 : Runs xs sl d 55 16 [l0, l1, l2] [.int u2, .ref b1, s0] H r ↔ ∃ v, hA H b1 0 u2 = some v ∧ Runs xs sl d 55 17 [l0, l1, l2] [.int v, s0] H r := run_iald (mo_55 16 rfl) rfl
theorem r55_17 : Runs xs sl d 55 17 [l0, l1, l2] [.int u1, .int u0] H r ↔ Runs xs sl d 55 18 [l0, l1, l2] [.int (u0 + u1)] H r := q_iadd (mo_55 17 rfl) rfl
theorem r55_18 : Runs xs sl d 55 18 [some (.ref a0), l1, l2] [.int u0] H r ↔ Runs xs sl d 55 19 [some (.ref a0), some (.int u0), l2] [] H r := q_istore_n (mo_55 18 rfl) (Nat.le_of_ble_eq_true rfl) rfl rfl
theorem r55_18_1 : Runs xs sl d 55 18 [some .null, l1, l2] [.int u0] H r ↔ Runs xs sl d 55 19 [some .null, some (.int u0), l2] [] H r := q_istore_n (mo_55 18 rfl) (Nat.le_of_ble_eq_true rfl) rfl rfl
theorem r55_19 : Runs xs sl d 55 19 [l0, some (.int i1), some (.int i2)] [] H r ↔ Runs xs sl d 55 22 [l0, some (.int i1), some (.int (i2 + 1))] [] H r := q_iinc (mo_55 19 rfl) rfl (Nat.le_of_ble_eq_true rfl) rfl rfl
theorem r55_22 : Runs xs sl d 55 22 [l0, l1, l2] [] H r ↔ Runs xs sl d 55 4 [l0, l1, l2] [] H r := q_goto (mo_55 22 rfl) rfl
theorem r55_25 : Runs xs sl d 55 25 [l0, some (.int i1), l2] [] H r ↔ Runs xs sl d 55 26 [l0, some (.int i1), l2] [.int i1] H r := q_iload_n (mo_55 25 rfl) rfl rfl
theorem r55_26 : Runs xs sl d 55 26 [l0, l1, l2] [.int u0] H r ↔ r = (some (.int u0), H) := q_iret (mo_55 26 rfl) mrt_55
theorem r56_0 : Runs xs sl d 56 0 [l0, l1, l2, l3, l4] [] H r ↔ Runs xs sl d 56 1 [l0, l1, l2, l3, l4] [.int 0] H r := q_iconst (mo_56 0 rfl) rfl rfl
theorem r56_1 : Runs xs sl d 56 1 [some (.ref a0), l1, l2, l3, l4] [.int u0] H r ↔ Runs xs sl d 56 2 [some (.ref a0), some (.int u0), l2, l3, l4] [] H r := q_istore_n (mo_56 1 rfl) (Nat.le_of_ble_eq_true rfl) rfl rfl
theorem r56_1_1 : Runs xs sl d 56 1 [some .null, l1, l2, l3, l4] [.int u0] H r ↔ Runs xs sl d 56 2 [some .null, some (.int u0), l2, l3, l4] [] H r := q_istore_n (mo_56 1 rfl) (Nat.le_of_ble_eq_true rfl) rfl rfl
theorem r56_2 : Runs xs sl d 56 2 [l0, l1, l2, l3, l4] [] H r ↔ Runs xs sl d 56 3 [l0, l1, l2, l3, l4] [.int 0] H r := q_iconst (mo_56 2 rfl) rfl rfl
theorem r56_3 : Runs xs sl d 56 3 [l0, some (.int i1), l2, l3, l4] [.int u0] H r ↔ Runs xs sl d 56 4 [l0, some (.int i1), some (.int u0), l3, l4] [] H r := q_istore_n (mo_56 3 rfl) (Nat.le_of_ble_eq_true rfl) rfl rfl
theorem r56_4 : Runs xs sl d 56 4 [l0, l1, some (.int i2), l3, l4] [] H r ↔ Runs xs sl d 56 5 [l0, l1, some (.int i2), l3, l4] [.int i2] H r := q_iload_n (mo_56 4 rfl) rfl rfl
theorem r56_5 : Runs xs sl d 56 5 [some (.ref a0), l1, l2, l3, l4] [s0] H r ↔ Runs xs sl d 56 6 [some (.ref a0), l1, l2, l3, l4] [.ref a0, s0] H r := q_aload_n (mo_56 5 rfl) rfl rfl
theorem r56_6 : Runs xs sl d 56 6 [l0, l1, l2, l3, l4] [.ref b1, s0] H r ↔ ∃ v, hO H b1 1 0 = some v ∧ Runs xs sl d 56 9 [l0, l1, l2, l3, l4] [v, s0] H r := q_getf (mo_56 6 rfl) mow_56 rfl rfl
theorem r56_9 : Runs xs sl d 56 9 [l0, l1, l2, l3, l4] [.ref b1, s0] H r ↔ ∃ v, hO H b1 4 0 = some v ∧ Runs xs sl d 56 12 [l0, l1, l2, l3, l4] [v, s0] H r := q_getf (mo_56 9 rfl) mow_56 rfl rfl
theorem r56_12 : Runs xs sl d 56 12 [l0, l1, l2, l3, l4] [.int u1, .int u0] H r ↔ if u1 ≤ u0 then Runs xs sl d 56 61 [l0, l1, l2, l3, l4] [] H r else Runs xs sl d 56 15 [l0, l1, l2, l3, l4] [] H r := q_icmp_ge (mo_56 12 rfl) rfl rfl
theorem r56_15 : Runs xs sl d 56 15 [l0, l1, l2, l3, l4] [] H r ↔ Runs xs sl d 56 17 [l0, l1, l2, l3, l4] [.int 12] H r := q_bipush (mo_56 15 rfl) rfl rfl
theorem r56_17 : Runs xs sl d 56 17 [l0, l1, some (.int i2), l3, l4] [.int u0] H r ↔ Runs xs sl d 56 18 [l0, l1, some (.int i2), some (.int u0), l4] [] H r := q_istore_n (mo_56 17 rfl) (Nat.le_of_ble_eq_true rfl) rfl rfl
theorem r56_18 : Runs xs sl d 56 18 [l0, l1, l2, l3, l4] [] H r ↔ Runs xs sl d 56 19 [l0, l1, l2, l3, l4] [.int 0] H r := q_iconst (mo_56 18 rfl) rfl rfl
theorem r56_19 : Runs xs sl d 56 19 [l0, l1, l2, some (.int i3), l4] [.int u0] H r ↔ Runs xs sl d 56 21 [l0, l1, l2, some (.int i3), some (.int u0)] [] H r := q_istore (mo_56 19 rfl) (Nat.le_of_ble_eq_true rfl) rfl rfl
theorem r56_21 : Runs xs sl d 56 21 [l0, l1, l2, l3, some (.int i4)] [] H r ↔ Runs xs sl d 56 23 [l0, l1, l2, l3, some (.int i4)] [.int i4] H r := q_iload (mo_56 21 rfl) rfl rfl
theorem r56_23 : Runs xs sl d 56 23 [l0, l1, l2, l3, l4] [s0] H r ↔ Runs xs sl d 56 25 [l0, l1, l2, l3, l4] [.int 7, s0] H r := q_bipush (mo_56 23 rfl) rfl rfl
theorem r56_25 : Runs xs sl d 56 25 [l0, l1, l2, l3, l4] [.int u1, .int u0] H r ↔ if u1 ≤ u0 then Runs xs sl d 56 51 [l0, l1, l2, l3, l4] [] H r else Runs xs sl d 56 28 [l0, l1, l2, l3, l4] [] H r := q_icmp_ge (mo_56 25 rfl) rfl rfl
theorem r56_28 : Runs xs sl d 56 28 [l0, l1, l2, some (.int i3), l4] [] H r ↔ Runs xs sl d 56 29 [l0, l1, l2, some (.int i3), l4] [.int i3] H r := q_iload_n (mo_56 28 rfl) rfl rfl
theorem r56_29 : Runs xs sl d 56 29 [some (.ref a0), l1, l2, l3, l4] [s0] H r ↔ Runs xs sl d 56 30 [some (.ref a0), l1, l2, l3, l4] [.ref a0, s0] H r := q_aload_n (mo_56 29 rfl) rfl rfl
theorem r56_30 : Runs xs sl d 56 30 [l0, l1, l2, l3, l4] [.ref b1, s0] H r ↔ ∃ v, hO H b1 1 1 = some v ∧ Runs xs sl d 56 33 [l0, l1, l2, l3, l4] [v, s0] H r := q_getf (mo_56 30 rfl) mow_56 rfl rfl
theorem r56_33 : Runs xs sl d 56 33 [l0, l1, some (.int i2), l3, l4] [s1, s0] H r ↔ Runs xs sl d 56 34 [l0, l1, some (.int i2), l3, l4] [.int i2, s1, s0] H r := q_iload_n (mo_56 33 rfl) rfl rfl
theorem r56_34 : Runs xs sl d 56 34 [l0, l1, l2, l3, l4] [s2, s1, s0] H r ↔ Runs xs sl d 56 36 [l0, l1, l2, l3, l4] [.int 7, s2, s1, s0] H r := q_bipush (mo_56 34 rfl) rfl rfl
theorem r56_36 : Runs xs sl d 56 36 [l0, l1, l2, l3, l4] [.int u3, .int u2, s1, s0] H r ↔ Runs xs sl d 56 37 [l0, l1, l2, l3, l4] [.int (u2 * u3), s1, s0] H r := q_imul (mo_56 36 rfl) rfl
theorem r56_37 : Runs xs sl d 56 37 [l0, l1, l2, l3, some (.int i4)] [s2, s1, s0] H r ↔ Runs xs sl d 56 39 [l0, l1, l2, l3, some (.int i4)] [.int i4, s2, s1, s0] H r := q_iload (mo_56 37 rfl) rfl rfl
theorem r56_39 : Runs xs sl d 56 39 [l0, l1, l2, l3, l4] [.int u3, .int u2, s1, s0] H r ↔ Runs xs sl d 56 40 [l0, l1, l2, l3, l4] [.int (u2 + u3), s1, s0] H r := q_iadd (mo_56 39 rfl) rfl
theorem r56_40 : Runs xs sl d 56 40 [l0, l1, l2, l3, l4] [.int u2, .ref b1, s0] H r ↔ ∃ v, hA H b1 0 u2 = some v ∧ Runs xs sl d 56 41 [l0, l1, l2, l3, l4] [.int v, s0] H r := run_iald (mo_56 40 rfl) rfl
theorem r56_41 : Runs xs sl (d + 1) 56 41 [l0, l1, l2, l3, l4] [.int u1, .int u0] H r ↔ Runs xs sl (d + 1) 56 44 [l0, l1, l2, l3, l4] [.int (if u1 < u0 then u1 else u0)] H r := q_mmin (mo_56 41 rfl) mow_56 rfl (Nat.le_of_ble_eq_true rfl) rfl
theorem r56_44 : Runs xs sl d 56 44 [l0, l1, some (.int i2), l3, l4] [.int u0] H r ↔ Runs xs sl d 56 45 [l0, l1, some (.int i2), some (.int u0), l4] [] H r := q_istore_n (mo_56 44 rfl) (Nat.le_of_ble_eq_true rfl) rfl rfl
theorem r56_45 : Runs xs sl d 56 45 [l0, l1, l2, some (.int i3), some (.int i4)] [] H r ↔ Runs xs sl d 56 48 [l0, l1, l2, some (.int i3), some (.int (i4 + 1))] [] H r := q_iinc (mo_56 45 rfl) rfl (Nat.le_of_ble_eq_true rfl) rfl rfl
theorem r56_48 : Runs xs sl d 56 48 [l0, l1, l2, l3, l4] [] H r ↔ Runs xs sl d 56 21 [l0, l1, l2, l3, l4] [] H r := q_goto (mo_56 48 rfl) rfl
theorem r56_51 : Runs xs sl d 56 51 [l0, some (.int i1), l2, l3, l4] [] H r ↔ Runs xs sl d 56 52 [l0, some (.int i1), l2, l3, l4] [.int i1] H r := q_iload_n (mo_56 51 rfl) rfl rfl
theorem r56_52 : Runs xs sl d 56 52 [l0, l1, l2, some (.int i3), l4] [s0] H r ↔ Runs xs sl d 56 53 [l0, l1, l2, some (.int i3), l4] [.int i3, s0] H r := q_iload_n (mo_56 52 rfl) rfl rfl
theorem r56_53 : Runs xs sl d 56 53 [l0, l1, l2, l3, l4] [.int u1, .int u0] H r ↔ Runs xs sl d 56 54 [l0, l1, l2, l3, l4] [.int (u0 + u1)] H r := q_iadd (mo_56 53 rfl) rfl
theorem r56_54 : Runs xs sl d 56 54 [some (.ref a0), l1, l2, l3, l4] [.int u0] H r ↔ Runs xs sl d 56 55 [some (.ref a0), some (.int u0), l2, l3, l4] [] H r := q_istore_n (mo_56 54 rfl) (Nat.le_of_ble_eq_true rfl) rfl rfl
theorem r56_54_1 : Runs xs sl d 56 54 [some .null, l1, l2, l3, l4] [.int u0] H r ↔ Runs xs sl d 56 55 [some .null, some (.int u0), l2, l3, l4] [] H r := q_istore_n (mo_56 54 rfl) (Nat.le_of_ble_eq_true rfl) rfl rfl
theorem r56_55 : Runs xs sl d 56 55 [l0, some (.int i1), some (.int i2), l3, l4] [] H r ↔ Runs xs sl d 56 58 [l0, some (.int i1), some (.int (i2 + 1)), l3, l4] [] H r := q_iinc (mo_56 55 rfl) rfl (Nat.le_of_ble_eq_true rfl) rfl rfl
theorem r56_58 : Runs xs sl d 56 58 [l0, l1, l2, l3, l4] [] H r ↔ Runs xs sl d 56 4 [l0, l1, l2, l3, l4] [] H r := q_goto (mo_56 58 rfl) rfl
theorem r56_61 : Runs xs sl d 56 61 [l0, some (.int i1), l2, l3, l4] [] H r ↔ Runs xs sl d 56 62 [l0, some (.int i1), l2, l3, l4] [.int i1] H r := q_iload_n (mo_56 61 rfl) rfl rfl
theorem r56_62 : Runs xs sl d 56 62 [l0, l1, l2, l3, l4] [.int u0] H r ↔ r = (some (.int u0), H) := q_iret (mo_56 62 rfl) mrt_56
theorem r57_0 : Runs xs sl d 57 0 [l0, l1, l2, l3, l4, l5] [] H r ↔ Runs xs sl d 57 2 [l0, l1, l2, l3, l4, l5] [.int (-9)] H r := q_bipush (mo_57 0 rfl) rfl rfl
theorem r57_2 : Runs xs sl d 57 2 [some (.ref a0), l1, l2, l3, l4, l5] [.int u0] H r ↔ Runs xs sl d 57 3 [some (.ref a0), some (.int u0), l2, l3, l4, l5] [] H r := q_istore_n (mo_57 2 rfl) (Nat.le_of_ble_eq_true rfl) rfl rfl
theorem r57_2_1 : Runs xs sl d 57 2 [some .null, l1, l2, l3, l4, l5] [.int u0] H r ↔ Runs xs sl d 57 3 [some .null, some (.int u0), l2, l3, l4, l5] [] H r := q_istore_n (mo_57 2 rfl) (Nat.le_of_ble_eq_true rfl) rfl rfl
theorem r57_3 : Runs xs sl d 57 3 [l0, l1, l2, l3, l4, l5] [] H r ↔ Runs xs sl d 57 5 [l0, l1, l2, l3, l4, l5] [.int 1000000] H r := q_ldc (mo_57 3 rfl) mow_57 rfl rfl
theorem r57_5 : Runs xs sl d 57 5 [l0, some (.int i1), l2, l3, l4, l5] [.int u0] H r ↔ Runs xs sl d 57 6 [l0, some (.int i1), some (.int u0), l3, l4, l5] [] H r := q_istore_n (mo_57 5 rfl) (Nat.le_of_ble_eq_true rfl) rfl rfl
theorem r57_6 : Runs xs sl d 57 6 [l0, l1, l2, l3, l4, l5] [] H r ↔ Runs xs sl d 57 8 [l0, l1, l2, l3, l4, l5] [.int 6] H r := q_bipush (mo_57 6 rfl) rfl rfl
theorem r57_8 : Runs xs sl d 57 8 [l0, l1, some (.int i2), l3, l4, l5] [.int u0] H r ↔ Runs xs sl d 57 9 [l0, l1, some (.int i2), some (.int u0), l4, l5] [] H r := q_istore_n (mo_57 8 rfl) (Nat.le_of_ble_eq_true rfl) rfl rfl
theorem r57_9 : Runs xs sl d 57 9 [l0, l1, l2, some (.int i3), l4, l5] [] H r ↔ Runs xs sl d 57 10 [l0, l1, l2, some (.int i3), l4, l5] [.int i3] H r := q_iload_n (mo_57 9 rfl) rfl rfl
theorem r57_10 : Runs xs sl d 57 10 [l0, l1, l2, l3, l4, l5] [s0] H r ↔ Runs xs sl d 57 12 [l0, l1, l2, l3, l4, l5] [.int 30, s0] H r := q_bipush (mo_57 10 rfl) rfl rfl
theorem r57_12 : Runs xs sl d 57 12 [l0, l1, l2, l3, l4, l5] [.int u1, .int u0] H r ↔ if u1 ≤ u0 then Runs xs sl d 57 86 [l0, l1, l2, l3, l4, l5] [] H r else Runs xs sl d 57 15 [l0, l1, l2, l3, l4, l5] [] H r := q_icmp_ge (mo_57 12 rfl) rfl rfl
theorem r57_15 : Runs xs sl d 57 15 [l0, l1, l2, some (.int i3), l4, l5] [] H r ↔ Runs xs sl d 57 16 [l0, l1, l2, some (.int i3), l4, l5] [.int i3] H r := q_iload_n (mo_57 15 rfl) rfl rfl
theorem r57_16 : Runs xs sl d 57 16 [l0, l1, l2, l3, l4, l5] [s0] H r ↔ Runs xs sl d 57 18 [l0, l1, l2, l3, l4, l5] [.int 6, s0] H r := q_bipush (mo_57 16 rfl) rfl rfl
theorem r57_18 (h : ¬ u1 = 0) : Runs xs sl d 57 18 [l0, l1, l2, l3, l4, l5] [.int u1, .int u0] H r ↔ Runs xs sl d 57 19 [l0, l1, l2, l3, l4, l5] [.int (u0 / u1)] H r := q_idiv (mo_57 18 rfl) h rfl
theorem r57_19 : Runs xs sl d 57 19 [l0, l1, l2, some (.int i3), l4, l5] [.int u0] H r ↔ Runs xs sl d 57 21 [l0, l1, l2, some (.int i3), some (.int u0), l5] [] H r := q_istore (mo_57 19 rfl) (Nat.le_of_ble_eq_true rfl) rfl rfl
theorem r57_21 : Runs xs sl d 57 21 [l0, l1, l2, l3, some (.int i4), l5] [] H r ↔ Runs xs sl d 57 23 [l0, l1, l2, l3, some (.int i4), l5] [.int i4] H r := q_iload (mo_57 21 rfl) rfl rfl
theorem r57_23 : Runs xs sl d 57 23 [l0, l1, l2, l3, l4, l5] [s0] H r ↔ Runs xs sl d 57 24 [l0, l1, l2, l3, l4, l5] [.int 2, s0] H r := q_iconst (mo_57 23 rfl) rfl rfl
theorem r57_24 : Runs xs sl d 57 24 [l0, l1, l2, l3, l4, l5] [.int u1, .int u0] H r ↔ if u0 = u1 then Runs xs sl d 57 45 [l0, l1, l2, l3, l4, l5] [] H r else Runs xs sl d 57 27 [l0, l1, l2, l3, l4, l5] [] H r := q_icmp_eq (mo_57 24 rfl) rfl rfl
theorem r57_27 : Runs xs sl d 57 27 [l0, l1, l2, some (.int i3), l4, l5] [] H r ↔ Runs xs sl d 57 28 [l0, l1, l2, some (.int i3), l4, l5] [.int i3] H r := q_iload_n (mo_57 27 rfl) rfl rfl
theorem r57_28 : Runs xs sl d 57 28 [l0, l1, l2, l3, l4, l5] [s0] H r ↔ Runs xs sl d 57 30 [l0, l1, l2, l3, l4, l5] [.int 6, s0] H r := q_bipush (mo_57 28 rfl) rfl rfl
theorem r57_30 (h : ¬ u1 = 0) : Runs xs sl d 57 30 [l0, l1, l2, l3, l4, l5] [.int u1, .int u0] H r ↔ Runs xs sl d 57 31 [l0, l1, l2, l3, l4, l5] [.int (u0 - u0 / u1 * u1)] H r := q_irem (mo_57 30 rfl) h rfl
theorem r57_31 : Runs xs sl d 57 31 [some (.ref a0), l1, l2, l3, l4, l5] [s0] H r ↔ Runs xs sl d 57 32 [some (.ref a0), l1, l2, l3, l4, l5] [.ref a0, s0] H r := q_aload_n (mo_57 31 rfl) rfl rfl
theorem r57_32 : Runs xs sl d 57 32 [l0, l1, l2, l3, l4, l5] [.ref b1, s0] H r ↔ ∃ v, hO H b1 1 0 = some v ∧ Runs xs sl d 57 35 [l0, l1, l2, l3, l4, l5] [v, s0] H r := q_getf (mo_57 32 rfl) mow_57 rfl rfl
theorem r57_35 : Runs xs sl d 57 35 [l0, l1, l2, l3, l4, l5] [.ref b1, s0] H r ↔ ∃ v, hO H b1 4 0 = some v ∧ Runs xs sl d 57 38 [l0, l1, l2, l3, l4, l5] [v, s0] H r := q_getf (mo_57 35 rfl) mow_57 rfl rfl
theorem r57_38 : Runs xs sl d 57 38 [l0, l1, l2, l3, l4, l5] [.int u1, .int u0] H r ↔ if u1 ≤ u0 then Runs xs sl d 57 45 [l0, l1, l2, l3, l4, l5] [] H r else Runs xs sl d 57 41 [l0, l1, l2, l3, l4, l5] [] H r := q_icmp_ge (mo_57 38 rfl) rfl rfl
theorem r57_41 : Runs xs sl d 57 41 [l0, l1, l2, l3, l4, l5] [] H r ↔ Runs xs sl d 57 42 [l0, l1, l2, l3, l4, l5] [.int 1] H r := q_iconst (mo_57 41 rfl) rfl rfl
theorem r57_42 : Runs xs sl d 57 42 [l0, l1, l2, l3, l4, l5] [s0] H r ↔ Runs xs sl d 57 46 [l0, l1, l2, l3, l4, l5] [s0] H r := q_goto (mo_57 42 rfl) rfl
theorem r57_45 : Runs xs sl d 57 45 [l0, l1, l2, l3, l4, l5] [] H r ↔ Runs xs sl d 57 46 [l0, l1, l2, l3, l4, l5] [.int 0] H r := q_iconst (mo_57 45 rfl) rfl rfl
theorem r57_46 : Runs xs sl d 57 46 [l0, l1, l2, l3, some (.int i4), l5] [.int u0] H r ↔ Runs xs sl d 57 48 [l0, l1, l2, l3, some (.int i4), some (.int u0)] [] H r := q_istore (mo_57 46 rfl) (Nat.le_of_ble_eq_true rfl) rfl rfl
theorem r57_48 : Runs xs sl d 57 48 [l0, l1, l2, l3, l4, some (.int i5)] [] H r ↔ Runs xs sl d 57 50 [l0, l1, l2, l3, l4, some (.int i5)] [.int i5] H r := q_iload (mo_57 48 rfl) rfl rfl
theorem r57_50 : Runs xs sl d 57 50 [l0, l1, l2, l3, l4, l5] [.int u0] H r ↔ if u0 = 0 then Runs xs sl d 57 80 [l0, l1, l2, l3, l4, l5] [] H r else Runs xs sl d 57 53 [l0, l1, l2, l3, l4, l5] [] H r := q_if_eq (mo_57 50 rfl) rfl rfl
theorem r57_53 : Runs xs sl d 57 53 [some (.ref a0), l1, l2, l3, l4, l5] [] H r ↔ Runs xs sl d 57 54 [some (.ref a0), l1, l2, l3, l4, l5] [.ref a0] H r := q_aload_n (mo_57 53 rfl) rfl rfl
theorem r57_54 : Runs xs sl d 57 54 [l0, l1, l2, l3, some (.int i4), l5] [s0] H r ↔ Runs xs sl d 57 56 [l0, l1, l2, l3, some (.int i4), l5] [.int i4, s0] H r := q_iload (mo_57 54 rfl) rfl rfl
theorem r57_56 : Runs xs sl d 57 56 [l0, l1, l2, some (.int i3), l4, l5] [s1, s0] H r ↔ Runs xs sl d 57 57 [l0, l1, l2, some (.int i3), l4, l5] [.int i3, s1, s0] H r := q_iload_n (mo_57 56 rfl) rfl rfl
theorem r57_57 : Runs xs sl d 57 57 [l0, l1, l2, l3, l4, l5] [s2, s1, s0] H r ↔ Runs xs sl d 57 59 [l0, l1, l2, l3, l4, l5] [.int 6, s2, s1, s0] H r := q_bipush (mo_57 57 rfl) rfl rfl
theorem r57_59 (h : ¬ u3 = 0) : Runs xs sl d 57 59 [l0, l1, l2, l3, l4, l5] [.int u3, .int u2, s1, s0] H r ↔ Runs xs sl d 57 60 [l0, l1, l2, l3, l4, l5] [.int (u2 - u2 / u3 * u3), s1, s0] H r := q_irem (mo_57 59 rfl) h rfl
theorem r57_60 (hc : hC H b0 = some 1) : Runs xs sl (d + 1) 57 60 [l0, l1, l2, l3, l4, l5] [.int u2, .int u1, .ref b0] H r ↔ ∃ v H1, Runs xs sl d 58 0 [some (.ref b0), some (.int u1), some (.int u2), none, none, none] [] H (v, H1) ∧ Runs xs sl (d + 1) 57 63 [l0, l1, l2, l3, l4, l5] (v.toList ++ []) H1 r := q_callV (M' := 58) (as := [.int u1, .int u2]) (rest := []) (mo_57 60 rfl) mow_57 rfl mcs_58 mmx_58 rfl (Nat.le_of_ble_eq_true rfl) (Nat.le_of_ble_eq_true rfl) rfl rfl hc
theorem r57_63 : Runs xs sl d 57 63 [l0, l1, some (.int i2), l3, l4, l5] [s0] H r ↔ Runs xs sl d 57 64 [l0, l1, some (.int i2), l3, l4, l5] [.int i2, s0] H r := q_iload_n (mo_57 63 rfl) rfl rfl
theorem r57_64 : Runs xs sl d 57 64 [l0, l1, l2, l3, l4, l5] [.int u1, .int u0] H r ↔ if u1 ≤ u0 then Runs xs sl d 57 80 [l0, l1, l2, l3, l4, l5] [] H r else Runs xs sl d 57 67 [l0, l1, l2, l3, l4, l5] [] H r := q_icmp_ge (mo_57 64 rfl) rfl rfl
theorem r57_67 : Runs xs sl d 57 67 [some (.ref a0), l1, l2, l3, l4, l5] [] H r ↔ Runs xs sl d 57 68 [some (.ref a0), l1, l2, l3, l4, l5] [.ref a0] H r := q_aload_n (mo_57 67 rfl) rfl rfl
theorem r57_68 : Runs xs sl d 57 68 [l0, l1, l2, l3, some (.int i4), l5] [s0] H r ↔ Runs xs sl d 57 70 [l0, l1, l2, l3, some (.int i4), l5] [.int i4, s0] H r := q_iload (mo_57 68 rfl) rfl rfl
theorem r57_70 : Runs xs sl d 57 70 [l0, l1, l2, some (.int i3), l4, l5] [s1, s0] H r ↔ Runs xs sl d 57 71 [l0, l1, l2, some (.int i3), l4, l5] [.int i3, s1, s0] H r := q_iload_n (mo_57 70 rfl) rfl rfl
theorem r57_71 : Runs xs sl d 57 71 [l0, l1, l2, l3, l4, l5] [s2, s1, s0] H r ↔ Runs xs sl d 57 73 [l0, l1, l2, l3, l4, l5] [.int 6, s2, s1, s0] H r := q_bipush (mo_57 71 rfl) rfl rfl
theorem r57_73 (h : ¬ u3 = 0) : Runs xs sl d 57 73 [l0, l1, l2, l3, l4, l5] [.int u3, .int u2, s1, s0] H r ↔ Runs xs sl d 57 74 [l0, l1, l2, l3, l4, l5] [.int (u2 - u2 / u3 * u3), s1, s0] H r := q_irem (mo_57 73 rfl) h rfl
theorem r57_74 (hc : hC H b0 = some 1) : Runs xs sl (d + 1) 57 74 [l0, l1, l2, l3, l4, l5] [.int u2, .int u1, .ref b0] H r ↔ ∃ v H1, Runs xs sl d 58 0 [some (.ref b0), some (.int u1), some (.int u2), none, none, none] [] H (v, H1) ∧ Runs xs sl (d + 1) 57 77 [l0, l1, l2, l3, l4, l5] (v.toList ++ []) H1 r := q_callV (M' := 58) (as := [.int u1, .int u2]) (rest := []) (mo_57 74 rfl) mow_57 rfl mcs_58 mmx_58 rfl (Nat.le_of_ble_eq_true rfl) (Nat.le_of_ble_eq_true rfl) rfl rfl hc
theorem r57_77 : Runs xs sl d 57 77 [l0, some (.int i1), l2, l3, l4, l5] [.int u0] H r ↔ Runs xs sl d 57 78 [l0, some (.int i1), some (.int u0), l3, l4, l5] [] H r := q_istore_n (mo_57 77 rfl) (Nat.le_of_ble_eq_true rfl) rfl rfl
theorem r57_78 : Runs xs sl d 57 78 [l0, l1, l2, some (.int i3), l4, l5] [] H r ↔ Runs xs sl d 57 79 [l0, l1, l2, some (.int i3), l4, l5] [.int i3] H r := q_iload_n (mo_57 78 rfl) rfl rfl
theorem r57_79 : Runs xs sl d 57 79 [some (.ref a0), l1, l2, l3, l4, l5] [.int u0] H r ↔ Runs xs sl d 57 80 [some (.ref a0), some (.int u0), l2, l3, l4, l5] [] H r := q_istore_n (mo_57 79 rfl) (Nat.le_of_ble_eq_true rfl) rfl rfl
theorem r57_79_1 : Runs xs sl d 57 79 [some .null, l1, l2, l3, l4, l5] [.int u0] H r ↔ Runs xs sl d 57 80 [some .null, some (.int u0), l2, l3, l4, l5] [] H r := q_istore_n (mo_57 79 rfl) (Nat.le_of_ble_eq_true rfl) rfl rfl
theorem r57_80 : Runs xs sl d 57 80 [l0, l1, some (.int i2), some (.int i3), l4, l5] [] H r ↔ Runs xs sl d 57 83 [l0, l1, some (.int i2), some (.int (i3 + 1)), l4, l5] [] H r := q_iinc (mo_57 80 rfl) rfl (Nat.le_of_ble_eq_true rfl) rfl rfl
theorem r57_83 : Runs xs sl d 57 83 [l0, l1, l2, l3, l4, l5] [] H r ↔ Runs xs sl d 57 9 [l0, l1, l2, l3, l4, l5] [] H r := q_goto (mo_57 83 rfl) rfl
theorem r57_86 : Runs xs sl d 57 86 [l0, some (.int i1), l2, l3, l4, l5] [] H r ↔ Runs xs sl d 57 87 [l0, some (.int i1), l2, l3, l4, l5] [.int i1] H r := q_iload_n (mo_57 86 rfl) rfl rfl
theorem r57_87 : Runs xs sl d 57 87 [l0, l1, l2, l3, l4, l5] [.int u0] H r ↔ r = (some (.int u0), H) := q_iret (mo_57 87 rfl) mrt_57
theorem r58_0 : Runs xs sl d 58 0 [some (.ref a0), l1, l2, l3, l4, l5] [] H r ↔ Runs xs sl d 58 1 [some (.ref a0), l1, l2, l3, l4, l5] [.ref a0] H r := q_aload_n (mo_58 0 rfl) rfl rfl
theorem r58_1 : Runs xs sl d 58 1 [l0, l1, l2, l3, l4, l5] [.ref b0] H r ↔ ∃ v, hO H b0 1 5 = some v ∧ Runs xs sl d 58 4 [l0, l1, l2, l3, l4, l5] [v] H r := q_getf (mo_58 1 rfl) mow_58 rfl rfl
theorem r58_4 : Runs xs sl d 58 4 [l0, l1, l2, l3, l4, l5] [s0] H r ↔ Runs xs sl d 58 5 [l0, l1, l2, l3, l4, l5] [.int 0, s0] H r := q_iconst (mo_58 4 rfl) rfl rfl
theorem r58_5 : Runs xs sl (d + 1) 58 5 [l0, l1, l2, l3, l4, l5] [.int u1, .ref b0] H r ↔ ∃ v H1, Runs xs sl d 291 0 [some (.ref b0), some (.int u1), none, none] [] H (v, H1) ∧ Runs xs sl (d + 1) 58 8 [l0, l1, l2, l3, l4, l5] (v.toList ++ []) H1 r := q_callS (M' := 291) (as := [.ref b0, .int u1]) (rest := []) (mo_58 5 rfl) mow_58 rfl mmx_291 rfl (Nat.le_of_ble_eq_true rfl) (Nat.le_of_ble_eq_true rfl) rfl rfl
theorem r58_8 : Runs xs sl d 58 8 [l0, l1, l2, l3, l4, l5] [] H r ↔ Runs xs sl d 58 9 [l0, l1, l2, l3, l4, l5] [.int 0] H r := q_iconst (mo_58 8 rfl) rfl rfl
theorem r58_9 : Runs xs sl d 58 9 [l0, l1, some (.int i2), l3, l4, l5] [.int u0] H r ↔ Runs xs sl d 58 10 [l0, l1, some (.int i2), some (.int u0), l4, l5] [] H r := q_istore_n (mo_58 9 rfl) (Nat.le_of_ble_eq_true rfl) rfl rfl
theorem r58_10 : Runs xs sl d 58 10 [l0, l1, l2, l3, l4, l5] [] H r ↔ Runs xs sl d 58 11 [l0, l1, l2, l3, l4, l5] [.int 0] H r := q_iconst (mo_58 10 rfl) rfl rfl
theorem r58_11 : Runs xs sl d 58 11 [l0, l1, l2, some (.int i3), l4, l5] [.int u0] H r ↔ Runs xs sl d 58 13 [l0, l1, l2, some (.int i3), some (.int u0), l5] [] H r := q_istore (mo_58 11 rfl) (Nat.le_of_ble_eq_true rfl) rfl rfl
theorem r58_13 : Runs xs sl d 58 13 [l0, l1, l2, l3, some (.int i4), l5] [] H r ↔ Runs xs sl d 58 15 [l0, l1, l2, l3, some (.int i4), l5] [.int i4] H r := q_iload (mo_58 13 rfl) rfl rfl
theorem r58_15 : Runs xs sl d 58 15 [l0, l1, l2, l3, l4, l5] [s0] H r ↔ Runs xs sl d 58 17 [l0, l1, l2, l3, l4, l5] [.int 7, s0] H r := q_bipush (mo_58 15 rfl) rfl rfl
theorem r58_17 : Runs xs sl d 58 17 [l0, l1, l2, l3, l4, l5] [.int u1, .int u0] H r ↔ if u1 ≤ u0 then Runs xs sl d 58 72 [l0, l1, l2, l3, l4, l5] [] H r else Runs xs sl d 58 20 [l0, l1, l2, l3, l4, l5] [] H r := q_icmp_ge (mo_58 17 rfl) rfl rfl
theorem r58_20 : Runs xs sl d 58 20 [l0, some (.int i1), l2, l3, l4, l5] [] H r ↔ Runs xs sl d 58 21 [l0, some (.int i1), l2, l3, l4, l5] [.int i1] H r := q_iload_n (mo_58 20 rfl) rfl rfl
theorem r58_21 : Runs xs sl d 58 21 [l0, l1, l2, l3, some (.int i4), l5] [s0] H r ↔ Runs xs sl d 58 23 [l0, l1, l2, l3, some (.int i4), l5] [.int i4, s0] H r := q_iload (mo_58 21 rfl) rfl rfl
theorem r58_23 : Runs xs sl d 58 23 [l0, l1, l2, l3, l4, l5] [s1, s0] H r ↔ Runs xs sl d 58 24 [l0, l1, l2, l3, l4, l5] [.int 3, s1, s0] H r := q_iconst (mo_58 23 rfl) rfl rfl
theorem r58_24 : Runs xs sl d 58 24 [l0, l1, l2, l3, l4, l5] [.int u2, .int u1, s0] H r ↔ Runs xs sl d 58 25 [l0, l1, l2, l3, l4, l5] [.int (u1 - u2), s0] H r := q_isub (mo_58 24 rfl) rfl
theorem r58_25 : Runs xs sl (d + 1) 58 25 [l0, l1, l2, l3, l4, l5] [.int u1, .int u0] H r ↔ ∃ v H1, Runs xs sl d 14 0 [some (.int u0), some (.int u1)] [] H (v, H1) ∧ Runs xs sl (d + 1) 58 28 [l0, l1, l2, l3, l4, l5] (v.toList ++ []) H1 r := q_callS (M' := 14) (as := [.int u0, .int u1]) (rest := []) (mo_58 25 rfl) mow_58 rfl mmx_14 rfl (Nat.le_of_ble_eq_true rfl) (Nat.le_of_ble_eq_true rfl) rfl rfl
theorem r58_28 : Runs xs sl d 58 28 [l0, l1, l2, l3, l4, l5] [s0] H r ↔ Runs xs sl d 58 29 [l0, l1, l2, l3, l4, l5] [.int 3, s0] H r := q_iconst (mo_58 28 rfl) rfl rfl
theorem r58_29 : Runs xs sl d 58 29 [l0, l1, l2, l3, l4, l5] [.int u1, .int u0] H r ↔ Runs xs sl d 58 30 [l0, l1, l2, l3, l4, l5] [.int (u0 + u1)] H r := q_iadd (mo_58 29 rfl) rfl
theorem r58_30 : Runs xs sl d 58 30 [l0, l1, l2, l3, some (.int i4), l5] [.int u0] H r ↔ Runs xs sl d 58 32 [l0, l1, l2, l3, some (.int i4), some (.int u0)] [] H r := q_istore (mo_58 30 rfl) (Nat.le_of_ble_eq_true rfl) rfl rfl
theorem r58_32 : Runs xs sl d 58 32 [some (.ref a0), l1, l2, l3, l4, l5] [] H r ↔ Runs xs sl d 58 33 [some (.ref a0), l1, l2, l3, l4, l5] [.ref a0] H r := q_aload_n (mo_58 32 rfl) rfl rfl
theorem r58_33 : Runs xs sl d 58 33 [l0, l1, l2, l3, l4, l5] [.ref b0] H r ↔ ∃ v, hO H b0 1 5 = some v ∧ Runs xs sl d 58 36 [l0, l1, l2, l3, l4, l5] [v] H r := q_getf (mo_58 33 rfl) mow_58 rfl rfl
theorem r58_36 : Runs xs sl d 58 36 [l0, l1, l2, l3, l4, some (.int i5)] [s0] H r ↔ Runs xs sl d 58 38 [l0, l1, l2, l3, l4, some (.int i5)] [.int i5, s0] H r := q_iload (mo_58 36 rfl) rfl rfl
theorem r58_38 : Runs xs sl d 58 38 [l0, l1, l2, l3, l4, l5] [.int u1, .ref b0] H r ↔ Runs xs sl d 58 39 [l0, l1, l2, l3, l4, l5] [.int u1, .ref b0, .int u1, .ref b0] H r := q_dup2 (mo_58 38 rfl) rfl rfl rfl
theorem r58_39 : Runs xs sl d 58 39 [l0, l1, l2, l3, l4, l5] [.int u3, .ref b2, s1, s0] H r ↔ ∃ v, hA H b2 0 u3 = some v ∧ Runs xs sl d 58 40 [l0, l1, l2, l3, l4, l5] [.int v, s1, s0] H r := run_iald (mo_58 39 rfl) rfl
theorem r58_40 : Runs xs sl d 58 40 [some (.ref a0), l1, l2, l3, l4, l5] [s2, s1, s0] H r ↔ Runs xs sl d 58 41 [some (.ref a0), l1, l2, l3, l4, l5] [.ref a0, s2, s1, s0] H r := q_aload_n (mo_58 40 rfl) rfl rfl
theorem r58_41 : Runs xs sl d 58 41 [l0, l1, l2, l3, l4, l5] [.ref b3, s2, s1, s0] H r ↔ ∃ v, hO H b3 1 2 = some v ∧ Runs xs sl d 58 44 [l0, l1, l2, l3, l4, l5] [v, s2, s1, s0] H r := q_getf (mo_58 41 rfl) mow_58 rfl rfl
theorem r58_44 : Runs xs sl d 58 44 [l0, l1, some (.int i2), l3, l4, l5] [s3, s2, s1, s0] H r ↔ Runs xs sl d 58 45 [l0, l1, some (.int i2), l3, l4, l5] [.int i2, s3, s2, s1, s0] H r := q_iload_n (mo_58 44 rfl) rfl rfl
theorem r58_45 : Runs xs sl d 58 45 [l0, l1, l2, l3, l4, l5] [s4, s3, s2, s1, s0] H r ↔ Runs xs sl d 58 47 [l0, l1, l2, l3, l4, l5] [.int 7, s4, s3, s2, s1, s0] H r := q_bipush (mo_58 45 rfl) rfl rfl
theorem r58_47 : Runs xs sl d 58 47 [l0, l1, l2, l3, l4, l5] [.int u5, .int u4, s3, s2, s1, s0] H r ↔ Runs xs sl d 58 48 [l0, l1, l2, l3, l4, l5] [.int (u4 * u5), s3, s2, s1, s0] H r := q_imul (mo_58 47 rfl) rfl
theorem r58_48 : Runs xs sl d 58 48 [l0, l1, l2, l3, some (.int i4), l5] [s4, s3, s2, s1, s0] H r ↔ Runs xs sl d 58 50 [l0, l1, l2, l3, some (.int i4), l5] [.int i4, s4, s3, s2, s1, s0] H r := q_iload (mo_58 48 rfl) rfl rfl
theorem r58_50 : Runs xs sl d 58 50 [l0, l1, l2, l3, l4, l5] [.int u5, .int u4, s3, s2, s1, s0] H r ↔ Runs xs sl d 58 51 [l0, l1, l2, l3, l4, l5] [.int (u4 + u5), s3, s2, s1, s0] H r := q_iadd (mo_58 50 rfl) rfl
theorem r58_51 : Runs xs sl d 58 51 [l0, l1, l2, l3, l4, l5] [.int u4, .ref b3, s2, s1, s0] H r ↔ ∃ v, hA H b3 0 u4 = some v ∧ Runs xs sl d 58 52 [l0, l1, l2, l3, l4, l5] [.int v, s2, s1, s0] H r := run_iald (mo_58 51 rfl) rfl
theorem r58_52 : Runs xs sl d 58 52 [l0, l1, l2, l3, l4, l5] [.int u3, .int u2, s1, s0] H r ↔ Runs xs sl d 58 53 [l0, l1, l2, l3, l4, l5] [.int (u2 + u3), s1, s0] H r := q_iadd (mo_58 52 rfl) rfl
theorem r58_53 : Runs xs sl d 58 53 [l0, l1, l2, l3, l4, l5] [.int u2, .int u1, .ref b0] H r ↔ ∃ H1, hAw H b0 0 u1 u2 = some H1 ∧ Runs xs sl d 58 54 [l0, l1, l2, l3, l4, l5] [] H1 r := run_iast (mo_58 53 rfl) rfl
theorem r58_54 : Runs xs sl d 58 54 [l0, l1, l2, some (.int i3), l4, l5] [] H r ↔ Runs xs sl d 58 55 [l0, l1, l2, some (.int i3), l4, l5] [.int i3] H r := q_iload_n (mo_58 54 rfl) rfl rfl
theorem r58_55 : Runs xs sl d 58 55 [some (.ref a0), l1, l2, l3, l4, l5] [s0] H r ↔ Runs xs sl d 58 56 [some (.ref a0), l1, l2, l3, l4, l5] [.ref a0, s0] H r := q_aload_n (mo_58 55 rfl) rfl rfl
theorem r58_56 : Runs xs sl d 58 56 [l0, l1, l2, l3, l4, l5] [.ref b1, s0] H r ↔ ∃ v, hO H b1 1 5 = some v ∧ Runs xs sl d 58 59 [l0, l1, l2, l3, l4, l5] [v, s0] H r := q_getf (mo_58 56 rfl) mow_58 rfl rfl
theorem r58_59 : Runs xs sl d 58 59 [l0, l1, l2, l3, l4, some (.int i5)] [s1, s0] H r ↔ Runs xs sl d 58 61 [l0, l1, l2, l3, l4, some (.int i5)] [.int i5, s1, s0] H r := q_iload (mo_58 59 rfl) rfl rfl
theorem r58_61 : Runs xs sl d 58 61 [l0, l1, l2, l3, l4, l5] [.int u2, .ref b1, s0] H r ↔ ∃ v, hA H b1 0 u2 = some v ∧ Runs xs sl d 58 62 [l0, l1, l2, l3, l4, l5] [.int v, s0] H r := run_iald (mo_58 61 rfl) rfl
theorem r58_62 : Runs xs sl (d + 1) 58 62 [l0, l1, l2, l3, l4, l5] [.int u1, .int u0] H r ↔ Runs xs sl (d + 1) 58 65 [l0, l1, l2, l3, l4, l5] [.int (if u0 < u1 then u1 else u0)] H r := q_mmax (mo_58 62 rfl) mow_58 rfl (Nat.le_of_ble_eq_true rfl) rfl
theorem r58_65 : Runs xs sl d 58 65 [l0, l1, some (.int i2), l3, l4, l5] [.int u0] H r ↔ Runs xs sl d 58 66 [l0, l1, some (.int i2), some (.int u0), l4, l5] [] H r := q_istore_n (mo_58 65 rfl) (Nat.le_of_ble_eq_true rfl) rfl rfl
theorem r58_66 : Runs xs sl d 58 66 [l0, l1, l2, some (.int i3), some (.int i4), l5] [] H r ↔ Runs xs sl d 58 69 [l0, l1, l2, some (.int i3), some (.int (i4 + 1)), l5] [] H r := q_iinc (mo_58 66 rfl) rfl (Nat.le_of_ble_eq_true rfl) rfl rfl
theorem r58_69 : Runs xs sl d 58 69 [l0, l1, l2, l3, l4, l5] [] H r ↔ Runs xs sl d 58 13 [l0, l1, l2, l3, l4, l5] [] H r := q_goto (mo_58 69 rfl) rfl
theorem r58_72 : Runs xs sl d 58 72 [l0, l1, l2, some (.int i3), l4, l5] [] H r ↔ Runs xs sl d 58 73 [l0, l1, l2, some (.int i3), l4, l5] [.int i3] H r := q_iload_n (mo_58 72 rfl) rfl rfl
theorem r58_73 : Runs xs sl d 58 73 [l0, l1, l2, l3, l4, l5] [.int u0] H r ↔ r = (some (.int u0), H) := q_iret (mo_58 73 rfl) mrt_58
theorem r59_0 : Runs xs sl d 59 0 [l0, l1, l2] [] H r ↔ Runs xs sl d 59 1 [l0, l1, l2] [.int 0] H r := q_iconst (mo_59 0 rfl) rfl rfl
theorem r59_1 : Runs xs sl d 59 1 [l0, some (.int i1), l2] [.int u0] H r ↔ Runs xs sl d 59 2 [l0, some (.int i1), some (.int u0)] [] H r := q_istore_n (mo_59 1 rfl) (Nat.le_of_ble_eq_true rfl) rfl rfl
theorem r59_2 : Runs xs sl d 59 2 [l0, l1, some (.int i2)] [] H r ↔ Runs xs sl d 59 3 [l0, l1, some (.int i2)] [.int i2] H r := q_iload_n (mo_59 2 rfl) rfl rfl
theorem r59_3 : Runs xs sl d 59 3 [l0, l1, l2] [s0] H r ↔ Runs xs sl d 59 5 [l0, l1, l2] [.int 7, s0] H r := q_bipush (mo_59 3 rfl) rfl rfl
theorem r59_5 : Runs xs sl d 59 5 [l0, l1, l2] [.int u1, .int u0] H r ↔ if u1 ≤ u0 then Runs xs sl d 59 32 [l0, l1, l2] [] H r else Runs xs sl d 59 8 [l0, l1, l2] [] H r := q_icmp_ge (mo_59 5 rfl) rfl rfl
theorem r59_8 : Runs xs sl d 59 8 [some (.ref a0), l1, l2] [] H r ↔ Runs xs sl d 59 9 [some (.ref a0), l1, l2] [.ref a0] H r := q_aload_n (mo_59 8 rfl) rfl rfl
theorem r59_9 : Runs xs sl d 59 9 [l0, l1, l2] [.ref b0] H r ↔ ∃ v, hO H b0 1 2 = some v ∧ Runs xs sl d 59 12 [l0, l1, l2] [v] H r := q_getf (mo_59 9 rfl) mow_59 rfl rfl
theorem r59_12 : Runs xs sl d 59 12 [l0, some (.int i1), l2] [s0] H r ↔ Runs xs sl d 59 13 [l0, some (.int i1), l2] [.int i1, s0] H r := q_iload_n (mo_59 12 rfl) rfl rfl
theorem r59_13 : Runs xs sl d 59 13 [l0, l1, l2] [s1, s0] H r ↔ Runs xs sl d 59 15 [l0, l1, l2] [.int 7, s1, s0] H r := q_bipush (mo_59 13 rfl) rfl rfl
theorem r59_15 : Runs xs sl d 59 15 [l0, l1, l2] [.int u2, .int u1, s0] H r ↔ Runs xs sl d 59 16 [l0, l1, l2] [.int (u1 * u2), s0] H r := q_imul (mo_59 15 rfl) rfl
theorem r59_16 : Runs xs sl d 59 16 [l0, l1, some (.int i2)] [s1, s0] H r ↔ Runs xs sl d 59 17 [l0, l1, some (.int i2)] [.int i2, s1, s0] H r := q_iload_n (mo_59 16 rfl) rfl rfl
theorem r59_17 : Runs xs sl d 59 17 [l0, l1, l2] [.int u2, .int u1, s0] H r ↔ Runs xs sl d 59 18 [l0, l1, l2] [.int (u1 + u2), s0] H r := q_iadd (mo_59 17 rfl) rfl
theorem r59_18 : Runs xs sl d 59 18 [l0, l1, l2] [.int u1, .ref b0] H r ↔ ∃ v, hA H b0 0 u1 = some v ∧ Runs xs sl d 59 19 [l0, l1, l2] [.int v] H r := run_iald (mo_59 18 rfl) rfl
theorem r59_19 : Runs xs sl d 59 19 [l0, l1, l2] [.int u0] H r ↔ if u0 ≤ 0 then Runs xs sl d 59 26 [l0, l1, l2] [] H r else Runs xs sl d 59 22 [l0, l1, l2] [] H r := q_if_le (mo_59 19 rfl) rfl rfl
theorem r59_22 : Runs xs sl d 59 22 [l0, l1, some (.int i2)] [] H r ↔ Runs xs sl d 59 23 [l0, l1, some (.int i2)] [.int i2] H r := q_iload_n (mo_59 22 rfl) rfl rfl
theorem r59_23 : Runs xs sl d 59 23 [l0, l1, l2] [s0] H r ↔ Runs xs sl d 59 24 [l0, l1, l2] [.int 3, s0] H r := q_iconst (mo_59 23 rfl) rfl rfl
theorem r59_24 : Runs xs sl d 59 24 [l0, l1, l2] [.int u1, .int u0] H r ↔ Runs xs sl d 59 25 [l0, l1, l2] [.int (u0 - u1)] H r := q_isub (mo_59 24 rfl) rfl
theorem r59_25 : Runs xs sl d 59 25 [l0, l1, l2] [.int u0] H r ↔ r = (some (.int u0), H) := q_iret (mo_59 25 rfl) mrt_59
theorem r59_26 : Runs xs sl d 59 26 [l0, some (.int i1), some (.int i2)] [] H r ↔ Runs xs sl d 59 29 [l0, some (.int i1), some (.int (i2 + 1))] [] H r := q_iinc (mo_59 26 rfl) rfl (Nat.le_of_ble_eq_true rfl) rfl rfl
theorem r59_29 : Runs xs sl d 59 29 [l0, l1, l2] [] H r ↔ Runs xs sl d 59 2 [l0, l1, l2] [] H r := q_goto (mo_59 29 rfl) rfl
theorem r59_32 : Runs xs sl d 59 32 [l0, l1, l2] [] H r ↔ Runs xs sl d 59 34 [l0, l1, l2] [.int (-9)] H r := q_bipush (mo_59 32 rfl) rfl rfl
theorem r59_34 : Runs xs sl d 59 34 [l0, l1, l2] [.int u0] H r ↔ r = (some (.int u0), H) := q_iret (mo_59 34 rfl) mrt_59
theorem r60_0 : Runs xs sl d 60 0 [l0, l1, l2] [] H r ↔ Runs xs sl d 60 2 [l0, l1, l2] [.int 6] H r := q_bipush (mo_60 0 rfl) rfl rfl
theorem r60_2 : Runs xs sl d 60 2 [l0, some (.int i1), l2] [.int u0] H r ↔ Runs xs sl d 60 3 [l0, some (.int i1), some (.int u0)] [] H r := q_istore_n (mo_60 2 rfl) (Nat.le_of_ble_eq_true rfl) rfl rfl
theorem r60_3 : Runs xs sl d 60 3 [l0, l1, some (.int i2)] [] H r ↔ Runs xs sl d 60 4 [l0, l1, some (.int i2)] [.int i2] H r := q_iload_n (mo_60 3 rfl) rfl rfl
theorem r60_4 : Runs xs sl d 60 4 [l0, l1, l2] [.int u0] H r ↔ if u0 < 0 then Runs xs sl d 60 31 [l0, l1, l2] [] H r else Runs xs sl d 60 7 [l0, l1, l2] [] H r := q_if_lt (mo_60 4 rfl) rfl rfl
theorem r60_7 : Runs xs sl d 60 7 [some (.ref a0), l1, l2] [] H r ↔ Runs xs sl d 60 8 [some (.ref a0), l1, l2] [.ref a0] H r := q_aload_n (mo_60 7 rfl) rfl rfl
theorem r60_8 : Runs xs sl d 60 8 [l0, l1, l2] [.ref b0] H r ↔ ∃ v, hO H b0 1 2 = some v ∧ Runs xs sl d 60 11 [l0, l1, l2] [v] H r := q_getf (mo_60 8 rfl) mow_60 rfl rfl
theorem r60_11 : Runs xs sl d 60 11 [l0, some (.int i1), l2] [s0] H r ↔ Runs xs sl d 60 12 [l0, some (.int i1), l2] [.int i1, s0] H r := q_iload_n (mo_60 11 rfl) rfl rfl
theorem r60_12 : Runs xs sl d 60 12 [l0, l1, l2] [s1, s0] H r ↔ Runs xs sl d 60 14 [l0, l1, l2] [.int 7, s1, s0] H r := q_bipush (mo_60 12 rfl) rfl rfl
theorem r60_14 : Runs xs sl d 60 14 [l0, l1, l2] [.int u2, .int u1, s0] H r ↔ Runs xs sl d 60 15 [l0, l1, l2] [.int (u1 * u2), s0] H r := q_imul (mo_60 14 rfl) rfl
theorem r60_15 : Runs xs sl d 60 15 [l0, l1, some (.int i2)] [s1, s0] H r ↔ Runs xs sl d 60 16 [l0, l1, some (.int i2)] [.int i2, s1, s0] H r := q_iload_n (mo_60 15 rfl) rfl rfl
theorem r60_16 : Runs xs sl d 60 16 [l0, l1, l2] [.int u2, .int u1, s0] H r ↔ Runs xs sl d 60 17 [l0, l1, l2] [.int (u1 + u2), s0] H r := q_iadd (mo_60 16 rfl) rfl
theorem r60_17 : Runs xs sl d 60 17 [l0, l1, l2] [.int u1, .ref b0] H r ↔ ∃ v, hA H b0 0 u1 = some v ∧ Runs xs sl d 60 18 [l0, l1, l2] [.int v] H r := run_iald (mo_60 17 rfl) rfl
theorem r60_18 : Runs xs sl d 60 18 [l0, l1, l2] [.int u0] H r ↔ if u0 ≤ 0 then Runs xs sl d 60 25 [l0, l1, l2] [] H r else Runs xs sl d 60 21 [l0, l1, l2] [] H r := q_if_le (mo_60 18 rfl) rfl rfl
theorem r60_21 : Runs xs sl d 60 21 [l0, l1, some (.int i2)] [] H r ↔ Runs xs sl d 60 22 [l0, l1, some (.int i2)] [.int i2] H r := q_iload_n (mo_60 21 rfl) rfl rfl
theorem r60_22 : Runs xs sl d 60 22 [l0, l1, l2] [s0] H r ↔ Runs xs sl d 60 23 [l0, l1, l2] [.int 3, s0] H r := q_iconst (mo_60 22 rfl) rfl rfl
theorem r60_23 : Runs xs sl d 60 23 [l0, l1, l2] [.int u1, .int u0] H r ↔ Runs xs sl d 60 24 [l0, l1, l2] [.int (u0 - u1)] H r := q_isub (mo_60 23 rfl) rfl
theorem r60_24 : Runs xs sl d 60 24 [l0, l1, l2] [.int u0] H r ↔ r = (some (.int u0), H) := q_iret (mo_60 24 rfl) mrt_60
theorem r60_25 : Runs xs sl d 60 25 [l0, some (.int i1), some (.int i2)] [] H r ↔ Runs xs sl d 60 28 [l0, some (.int i1), some (.int (i2 + (-1)))] [] H r := q_iinc (mo_60 25 rfl) rfl (Nat.le_of_ble_eq_true rfl) rfl rfl
theorem r60_28 : Runs xs sl d 60 28 [l0, l1, l2] [] H r ↔ Runs xs sl d 60 3 [l0, l1, l2] [] H r := q_goto (mo_60 28 rfl) rfl
theorem r60_31 : Runs xs sl d 60 31 [l0, l1, l2] [] H r ↔ Runs xs sl d 60 33 [l0, l1, l2] [.int (-9)] H r := q_bipush (mo_60 31 rfl) rfl rfl
theorem r60_33 : Runs xs sl d 60 33 [l0, l1, l2] [.int u0] H r ↔ r = (some (.int u0), H) := q_iret (mo_60 33 rfl) mrt_60
theorem r61_0 : Runs xs sl d 61 0 [some (.ref a0)] [] H r ↔ Runs xs sl d 61 1 [some (.ref a0)] [.ref a0] H r := q_aload_n (mo_61 0 rfl) rfl rfl
theorem r61_1 : Runs xs sl (d + 1) 61 1 [l0] [.ref b0] H r ↔ ∃ v H1, Runs xs sl d 292 0 [some (.ref b0)] [] H (v, H1) ∧ Runs xs sl (d + 1) 61 4 [l0] (v.toList ++ []) H1 r := q_callI (M' := 292) (as := []) (rest := []) (mo_61 1 rfl) mow_61 rfl mmx_292 rfl (Nat.le_of_ble_eq_true rfl) (Nat.le_of_ble_eq_true rfl) rfl rfl
theorem r61_4 : Runs xs sl d 61 4 [some (.ref a0)] [] H r ↔ Runs xs sl d 61 5 [some (.ref a0)] [.ref a0] H r := q_aload_n (mo_61 4 rfl) rfl rfl
theorem r61_5 : Runs xs sl d 61 5 [l0] [s0] H r ↔ Runs xs sl d 61 7 [l0] [.int 49, s0] H r := q_bipush (mo_61 5 rfl) rfl rfl
theorem r61_7 (h : ¬ (u1 < 0 ∨ 100000 < u1.toNatClampNeg)) : Runs xs sl d 61 7 [l0] [.int u1, s0] H r ↔ Runs xs sl d 61 9 [l0] [.ref H.2.1, s0] (mnew H (mI 0 u1.toNatClampNeg (fun _ => 0)) u1.toNatClampNeg) r := q_newa_int (mo_61 7 rfl) rfl h
theorem r61_9 : Runs xs sl d 61 9 [l0] [.ref b1, .ref b0] H r ↔ ∃ H1, hOw H b0 2 0 (.ref b1) = some H1 ∧ Runs xs sl d 61 12 [l0] [] H1 r := q_putf (mo_61 9 rfl) mow_61 rfl rfl (by decide +kernel) rfl
theorem r61_12 : Runs xs sl d 61 12 [some (.ref a0)] [] H r ↔ Runs xs sl d 61 13 [some (.ref a0)] [.ref a0] H r := q_aload_n (mo_61 12 rfl) rfl rfl
theorem r61_13 : Runs xs sl d 61 13 [l0] [s0] H r ↔ Runs xs sl d 61 15 [l0] [.int 7, s0] H r := q_bipush (mo_61 13 rfl) rfl rfl
theorem r61_15 (h : ¬ (u1 < 0 ∨ 100000 < u1.toNatClampNeg)) : Runs xs sl d 61 15 [l0] [.int u1, s0] H r ↔ Runs xs sl d 61 17 [l0] [.ref H.2.1, s0] (mnew H (mI 0 u1.toNatClampNeg (fun _ => 0)) u1.toNatClampNeg) r := q_newa_int (mo_61 15 rfl) rfl h
theorem r61_17 : Runs xs sl d 61 17 [l0] [.ref b1, .ref b0] H r ↔ ∃ H1, hOw H b0 2 1 (.ref b1) = some H1 ∧ Runs xs sl d 61 20 [l0] [] H1 r := q_putf (mo_61 17 rfl) mow_61 rfl rfl (by decide +kernel) rfl
theorem r61_20 : Runs xs sl d 61 20 [l0] [] H r ↔ r = (none, H) := q_ret (mo_61 20 rfl) mrt_61
theorem r62_0 : Runs xs sl d 62 0 [l0, l1, l2, l3, l4, l5, l6] [] H r ↔ Runs xs sl d 62 1 [l0, l1, l2, l3, l4, l5, l6] [.int 0] H r := q_iconst (mo_62 0 rfl) rfl rfl
theorem r62_1 : Runs xs sl d 62 1 [l0, l1, l2, some (.int i3), l4, l5, l6] [.int u0] H r ↔ Runs xs sl d 62 3 [l0, l1, l2, some (.int i3), some (.int u0), l5, l6] [] H r := q_istore (mo_62 1 rfl) (Nat.le_of_ble_eq_true rfl) rfl rfl
theorem r62_3 : Runs xs sl d 62 3 [l0, l1, l2, l3, l4, l5, l6] [] H r ↔ Runs xs sl d 62 4 [l0, l1, l2, l3, l4, l5, l6] [.int 0] H r := q_iconst (mo_62 3 rfl) rfl rfl
theorem r62_4 : Runs xs sl d 62 4 [l0, l1, l2, l3, some (.int i4), l5, l6] [.int u0] H r ↔ Runs xs sl d 62 6 [l0, l1, l2, l3, some (.int i4), some (.int u0), l6] [] H r := q_istore (mo_62 4 rfl) (Nat.le_of_ble_eq_true rfl) rfl rfl
theorem r62_6 : Runs xs sl d 62 6 [l0, l1, l2, l3, l4, some (.int i5), l6] [] H r ↔ Runs xs sl d 62 8 [l0, l1, l2, l3, l4, some (.int i5), l6] [.int i5] H r := q_iload (mo_62 6 rfl) rfl rfl
theorem r62_8 : Runs xs sl d 62 8 [some (.ref a0), l1, l2, l3, l4, l5, l6] [s0] H r ↔ Runs xs sl d 62 9 [some (.ref a0), l1, l2, l3, l4, l5, l6] [.ref a0, s0] H r := q_aload_n (mo_62 8 rfl) rfl rfl
theorem r62_8n : Runs xs sl d 62 8 [some .null, l1, l2, l3, l4, l5, l6] [s0] H r ↔ Runs xs sl d 62 9 [some .null, l1, l2, l3, l4, l5, l6] [.null, s0] H r := q_aload_nN (mo_62 8 rfl) rfl rfl
theorem r62_9 : Runs xs sl d 62 9 [l0, l1, l2, l3, l4, l5, l6] [.ref b1, s0] H r ↔ ∃ v, hO H b1 8 2 = some v ∧ Runs xs sl d 62 12 [l0, l1, l2, l3, l4, l5, l6] [v, s0] H r := q_getf (mo_62 9 rfl) mow_62 rfl rfl
theorem r62_12 : Runs xs sl d 62 12 [l0, l1, l2, l3, l4, l5, l6] [.int u1, .int u0] H r ↔ if u1 ≤ u0 then Runs xs sl d 62 64 [l0, l1, l2, l3, l4, l5, l6] [] H r else Runs xs sl d 62 15 [l0, l1, l2, l3, l4, l5, l6] [] H r := q_icmp_ge (mo_62 12 rfl) rfl rfl
theorem r62_15 : Runs xs sl d 62 15 [some (.ref a0), l1, l2, l3, l4, l5, l6] [] H r ↔ Runs xs sl d 62 16 [some (.ref a0), l1, l2, l3, l4, l5, l6] [.ref a0] H r := q_aload_n (mo_62 15 rfl) rfl rfl
theorem r62_15n : Runs xs sl d 62 15 [some .null, l1, l2, l3, l4, l5, l6] [] H r ↔ Runs xs sl d 62 16 [some .null, l1, l2, l3, l4, l5, l6] [.null] H r := q_aload_nN (mo_62 15 rfl) rfl rfl
theorem r62_16 : Runs xs sl d 62 16 [l0, l1, l2, l3, l4, l5, l6] [.ref b0] H r ↔ ∃ v, hO H b0 8 8 = some v ∧ Runs xs sl d 62 19 [l0, l1, l2, l3, l4, l5, l6] [v] H r := q_getf (mo_62 16 rfl) mow_62 rfl rfl
theorem r62_19 : Runs xs sl d 62 19 [l0, l1, l2, l3, l4, some (.int i5), l6] [s0] H r ↔ Runs xs sl d 62 21 [l0, l1, l2, l3, l4, some (.int i5), l6] [.int i5, s0] H r := q_iload (mo_62 19 rfl) rfl rfl
theorem r62_21 : Runs xs sl d 62 21 [l0, l1, l2, l3, l4, l5, l6] [s1, s0] H r ↔ Runs xs sl d 62 23 [l0, l1, l2, l3, l4, l5, l6] [.int 6, s1, s0] H r := q_bipush (mo_62 21 rfl) rfl rfl
theorem r62_23 : Runs xs sl d 62 23 [l0, l1, l2, l3, l4, l5, l6] [.int u2, .int u1, s0] H r ↔ Runs xs sl d 62 24 [l0, l1, l2, l3, l4, l5, l6] [.int (u1 * u2), s0] H r := q_imul (mo_62 23 rfl) rfl
theorem r62_24 : Runs xs sl d 62 24 [l0, some (.int i1), l2, l3, l4, l5, l6] [s1, s0] H r ↔ Runs xs sl d 62 25 [l0, some (.int i1), l2, l3, l4, l5, l6] [.int i1, s1, s0] H r := q_iload_n (mo_62 24 rfl) rfl rfl
theorem r62_25 : Runs xs sl d 62 25 [l0, l1, l2, l3, l4, l5, l6] [.int u2, .int u1, s0] H r ↔ Runs xs sl d 62 26 [l0, l1, l2, l3, l4, l5, l6] [.int (u1 + u2), s0] H r := q_iadd (mo_62 25 rfl) rfl
theorem r62_26 : Runs xs sl d 62 26 [l0, l1, l2, l3, l4, l5, l6] [.int u1, .ref b0] H r ↔ ∃ v, hA H b0 0 u1 = some v ∧ Runs xs sl d 62 27 [l0, l1, l2, l3, l4, l5, l6] [.int v] H r := run_iald (mo_62 26 rfl) rfl
theorem r62_27 : Runs xs sl d 62 27 [l0, l1, l2, l3, l4, some (.int i5), l6] [.int u0] H r ↔ Runs xs sl d 62 29 [l0, l1, l2, l3, l4, some (.int i5), some (.int u0)] [] H r := q_istore (mo_62 27 rfl) (Nat.le_of_ble_eq_true rfl) rfl rfl
theorem r62_29 : Runs xs sl d 62 29 [l0, l1, l2, l3, l4, l5, some (.int i6)] [] H r ↔ Runs xs sl d 62 31 [l0, l1, l2, l3, l4, l5, some (.int i6)] [.int i6] H r := q_iload (mo_62 29 rfl) rfl rfl
theorem r62_31 : Runs xs sl d 62 31 [l0, l1, some (.int i2), l3, l4, l5, l6] [s0] H r ↔ Runs xs sl d 62 32 [l0, l1, some (.int i2), l3, l4, l5, l6] [.int i2, s0] H r := q_iload_n (mo_62 31 rfl) rfl rfl
theorem r62_32 : Runs xs sl d 62 32 [l0, l1, l2, l3, l4, l5, l6] [.int u1, .int u0] H r ↔ Runs xs sl d 62 33 [l0, l1, l2, l3, l4, l5, l6] [.int (u0 - u1)] H r := q_isub (mo_62 32 rfl) rfl
theorem r62_33 : Runs xs sl (d + 1) 62 33 [l0, l1, l2, l3, l4, l5, l6] [.int u0] H r ↔ Runs xs sl (d + 1) 62 36 [l0, l1, l2, l3, l4, l5, l6] [.int (if 0 ≤ u0 then u0 else 0 - u0)] H r := q_mabs (mo_62 33 rfl) mow_62 rfl (Nat.le_of_ble_eq_true rfl) rfl
theorem r62_36 : Runs xs sl d 62 36 [l0, l1, l2, l3, l4, l5, some (.int i6)] [s0] H r ↔ Runs xs sl d 62 38 [l0, l1, l2, l3, l4, l5, some (.int i6)] [.int i6, s0] H r := q_iload (mo_62 36 rfl) rfl rfl
theorem r62_38 : Runs xs sl d 62 38 [l0, l1, l2, some (.int i3), l4, l5, l6] [s1, s0] H r ↔ Runs xs sl d 62 39 [l0, l1, l2, some (.int i3), l4, l5, l6] [.int i3, s1, s0] H r := q_iload_n (mo_62 38 rfl) rfl rfl
theorem r62_39 : Runs xs sl d 62 39 [l0, l1, l2, l3, l4, l5, l6] [.int u2, .int u1, s0] H r ↔ Runs xs sl d 62 40 [l0, l1, l2, l3, l4, l5, l6] [.int (u1 - u2), s0] H r := q_isub (mo_62 39 rfl) rfl
theorem r62_40 : Runs xs sl (d + 1) 62 40 [l0, l1, l2, l3, l4, l5, l6] [.int u1, .int u0] H r ↔ Runs xs sl (d + 1) 62 43 [l0, l1, l2, l3, l4, l5, l6] [.int (if 0 ≤ u1 then u1 else 0 - u1), .int u0] H r := q_mabs (mo_62 40 rfl) mow_62 rfl (Nat.le_of_ble_eq_true rfl) rfl
theorem r62_43 : Runs xs sl d 62 43 [l0, l1, l2, l3, l4, l5, l6] [.int u1, .int u0] H r ↔ if u1 ≤ u0 then Runs xs sl d 62 58 [l0, l1, l2, l3, l4, l5, l6] [] H r else Runs xs sl d 62 46 [l0, l1, l2, l3, l4, l5, l6] [] H r := q_icmp_ge (mo_62 43 rfl) rfl rfl
theorem r62_46 : Runs xs sl d 62 46 [l0, l1, l2, l3, some (.int i4), l5, l6] [] H r ↔ Runs xs sl d 62 48 [l0, l1, l2, l3, some (.int i4), l5, l6] [.int i4] H r := q_iload (mo_62 46 rfl) rfl rfl
theorem r62_48 : Runs xs sl d 62 48 [some (.ref a0), l1, l2, l3, l4, l5, l6] [s0] H r ↔ Runs xs sl d 62 49 [some (.ref a0), l1, l2, l3, l4, l5, l6] [.ref a0, s0] H r := q_aload_n (mo_62 48 rfl) rfl rfl
theorem r62_48n : Runs xs sl d 62 48 [some .null, l1, l2, l3, l4, l5, l6] [s0] H r ↔ Runs xs sl d 62 49 [some .null, l1, l2, l3, l4, l5, l6] [.null, s0] H r := q_aload_nN (mo_62 48 rfl) rfl rfl
theorem r62_49 : Runs xs sl d 62 49 [l0, l1, l2, l3, l4, l5, l6] [.ref b1, s0] H r ↔ ∃ v, hO H b1 8 5 = some v ∧ Runs xs sl d 62 52 [l0, l1, l2, l3, l4, l5, l6] [v, s0] H r := q_getf (mo_62 49 rfl) mow_62 rfl rfl
theorem r62_52 : Runs xs sl d 62 52 [l0, l1, l2, l3, l4, some (.int i5), l6] [s1, s0] H r ↔ Runs xs sl d 62 54 [l0, l1, l2, l3, l4, some (.int i5), l6] [.int i5, s1, s0] H r := q_iload (mo_62 52 rfl) rfl rfl
theorem r62_54 : Runs xs sl d 62 54 [l0, l1, l2, l3, l4, l5, l6] [.int u2, .ref b1, s0] H r ↔ ∃ v, hA H b1 0 u2 = some v ∧ Runs xs sl d 62 55 [l0, l1, l2, l3, l4, l5, l6] [.int v, s0] H r := run_iald (mo_62 54 rfl) rfl
theorem r62_55 : Runs xs sl d 62 55 [l0, l1, l2, l3, l4, l5, l6] [.int u1, .int u0] H r ↔ Runs xs sl d 62 56 [l0, l1, l2, l3, l4, l5, l6] [.int (u0 + u1)] H r := q_iadd (mo_62 55 rfl) rfl
theorem r62_56 : Runs xs sl d 62 56 [l0, l1, l2, some (.int i3), l4, l5, l6] [.int u0] H r ↔ Runs xs sl d 62 58 [l0, l1, l2, some (.int i3), some (.int u0), l5, l6] [] H r := q_istore (mo_62 56 rfl) (Nat.le_of_ble_eq_true rfl) rfl rfl
theorem r62_58 : Runs xs sl d 62 58 [l0, l1, l2, l3, some (.int i4), some (.int i5), l6] [] H r ↔ Runs xs sl d 62 61 [l0, l1, l2, l3, some (.int i4), some (.int (i5 + 1)), l6] [] H r := q_iinc (mo_62 58 rfl) rfl (Nat.le_of_ble_eq_true rfl) rfl rfl
theorem r62_61 : Runs xs sl d 62 61 [l0, l1, l2, l3, l4, l5, l6] [] H r ↔ Runs xs sl d 62 6 [l0, l1, l2, l3, l4, l5, l6] [] H r := q_goto (mo_62 61 rfl) rfl
theorem r62_64 : Runs xs sl d 62 64 [l0, l1, l2, l3, some (.int i4), l5, l6] [] H r ↔ Runs xs sl d 62 66 [l0, l1, l2, l3, some (.int i4), l5, l6] [.int i4] H r := q_iload (mo_62 64 rfl) rfl rfl
theorem r62_66 : Runs xs sl d 62 66 [l0, l1, l2, l3, l4, l5, l6] [.int u0] H r ↔ r = (some (.int u0), H) := q_iret (mo_62 66 rfl) mrt_62
theorem r63_0 : Runs xs sl d 63 0 [l0, l1, l2, l3, l4, l5] [] H r ↔ Runs xs sl d 63 1 [l0, l1, l2, l3, l4, l5] [.int 0] H r := q_iconst (mo_63 0 rfl) rfl rfl
theorem r63_1 : Runs xs sl d 63 1 [l0, l1, some (.int i2), l3, l4, l5] [.int u0] H r ↔ Runs xs sl d 63 2 [l0, l1, some (.int i2), some (.int u0), l4, l5] [] H r := q_istore_n (mo_63 1 rfl) (Nat.le_of_ble_eq_true rfl) rfl rfl
theorem r63_2 : Runs xs sl d 63 2 [l0, l1, l2, some (.int i3), l4, l5] [] H r ↔ Runs xs sl d 63 3 [l0, l1, l2, some (.int i3), l4, l5] [.int i3] H r := q_iload_n (mo_63 2 rfl) rfl rfl
theorem r63_3 : Runs xs sl d 63 3 [l0, l1, l2, l3, l4, l5] [s0] H r ↔ Runs xs sl d 63 5 [l0, l1, l2, l3, l4, l5] [.int 7, s0] H r := q_bipush (mo_63 3 rfl) rfl rfl
theorem r63_5 : Runs xs sl d 63 5 [l0, l1, l2, l3, l4, l5] [.int u1, .int u0] H r ↔ if u1 ≤ u0 then Runs xs sl d 63 82 [l0, l1, l2, l3, l4, l5] [] H r else Runs xs sl d 63 8 [l0, l1, l2, l3, l4, l5] [] H r := q_icmp_ge (mo_63 5 rfl) rfl rfl
theorem r63_8 : Runs xs sl d 63 8 [some (.ref a0), l1, l2, l3, l4, l5] [] H r ↔ Runs xs sl d 63 9 [some (.ref a0), l1, l2, l3, l4, l5] [.ref a0] H r := q_aload_n (mo_63 8 rfl) rfl rfl
theorem r63_9 : Runs xs sl d 63 9 [l0, l1, l2, l3, l4, l5] [.ref b0] H r ↔ ∃ v, hO H b0 2 1 = some v ∧ Runs xs sl d 63 12 [l0, l1, l2, l3, l4, l5] [v] H r := q_getf (mo_63 9 rfl) mow_63 rfl rfl
theorem r63_12 : Runs xs sl d 63 12 [l0, l1, l2, some (.int i3), l4, l5] [s0] H r ↔ Runs xs sl d 63 13 [l0, l1, l2, some (.int i3), l4, l5] [.int i3, s0] H r := q_iload_n (mo_63 12 rfl) rfl rfl
theorem r63_13 : Runs xs sl d 63 13 [l0, l1, l2, l3, l4, l5] [s1, s0] H r ↔ Runs xs sl d 63 14 [l0, l1, l2, l3, l4, l5] [.int 0, s1, s0] H r := q_iconst (mo_63 13 rfl) rfl rfl
theorem r63_14 : Runs xs sl d 63 14 [l0, l1, l2, l3, l4, l5] [.int u2, .int u1, .ref b0] H r ↔ ∃ H1, hAw H b0 0 u1 u2 = some H1 ∧ Runs xs sl d 63 15 [l0, l1, l2, l3, l4, l5] [] H1 r := run_iast (mo_63 14 rfl) rfl
theorem r63_15 : Runs xs sl d 63 15 [l0, l1, l2, l3, l4, l5] [] H r ↔ Runs xs sl d 63 16 [l0, l1, l2, l3, l4, l5] [.int 0] H r := q_iconst (mo_63 15 rfl) rfl rfl
theorem r63_16 : Runs xs sl d 63 16 [l0, l1, l2, some (.int i3), l4, l5] [.int u0] H r ↔ Runs xs sl d 63 18 [l0, l1, l2, some (.int i3), some (.int u0), l5] [] H r := q_istore (mo_63 16 rfl) (Nat.le_of_ble_eq_true rfl) rfl rfl
theorem r63_18 : Runs xs sl d 63 18 [l0, l1, l2, l3, some (.int i4), l5] [] H r ↔ Runs xs sl d 63 20 [l0, l1, l2, l3, some (.int i4), l5] [.int i4] H r := q_iload (mo_63 18 rfl) rfl rfl
theorem r63_20 : Runs xs sl d 63 20 [l0, l1, l2, l3, l4, l5] [s0] H r ↔ Runs xs sl d 63 22 [l0, l1, l2, l3, l4, l5] [.int 7, s0] H r := q_bipush (mo_63 20 rfl) rfl rfl
theorem r63_22 : Runs xs sl d 63 22 [l0, l1, l2, l3, l4, l5] [.int u1, .int u0] H r ↔ if u1 ≤ u0 then Runs xs sl d 63 76 [l0, l1, l2, l3, l4, l5] [] H r else Runs xs sl d 63 25 [l0, l1, l2, l3, l4, l5] [] H r := q_icmp_ge (mo_63 22 rfl) rfl rfl
theorem r63_25 : Runs xs sl d 63 25 [l0, some (.ref a1), l2, l3, l4, l5] [] H r ↔ Runs xs sl d 63 26 [l0, some (.ref a1), l2, l3, l4, l5] [.ref a1] H r := q_aload_n (mo_63 25 rfl) rfl rfl
theorem r63_25n : Runs xs sl d 63 25 [l0, some .null, l2, l3, l4, l5] [] H r ↔ Runs xs sl d 63 26 [l0, some .null, l2, l3, l4, l5] [.null] H r := q_aload_nN (mo_63 25 rfl) rfl rfl
theorem r63_26 : Runs xs sl d 63 26 [l0, l1, some (.int i2), l3, l4, l5] [s0] H r ↔ Runs xs sl d 63 27 [l0, l1, some (.int i2), l3, l4, l5] [.int i2, s0] H r := q_iload_n (mo_63 26 rfl) rfl rfl
theorem r63_27 : Runs xs sl d 63 27 [l0, l1, l2, l3, some (.int i4), l5] [s1, s0] H r ↔ Runs xs sl d 63 29 [l0, l1, l2, l3, some (.int i4), l5] [.int i4, s1, s0] H r := q_iload (mo_63 27 rfl) rfl rfl
theorem r63_29 : Runs xs sl d 63 29 [l0, l1, l2, l3, l4, l5] [s2, s1, s0] H r ↔ Runs xs sl d 63 30 [l0, l1, l2, l3, l4, l5] [.int 3, s2, s1, s0] H r := q_iconst (mo_63 29 rfl) rfl rfl
theorem r63_30 : Runs xs sl d 63 30 [l0, l1, l2, l3, l4, l5] [.int u3, .int u2, s1, s0] H r ↔ Runs xs sl d 63 31 [l0, l1, l2, l3, l4, l5] [.int (u2 - u3), s1, s0] H r := q_isub (mo_63 30 rfl) rfl
theorem r63_31 : Runs xs sl d 63 31 [l0, l1, l2, some (.int i3), l4, l5] [s2, s1, s0] H r ↔ Runs xs sl d 63 32 [l0, l1, l2, some (.int i3), l4, l5] [.int i3, s2, s1, s0] H r := q_iload_n (mo_63 31 rfl) rfl rfl
theorem r63_32 : Runs xs sl d 63 32 [l0, l1, l2, l3, l4, l5] [s3, s2, s1, s0] H r ↔ Runs xs sl d 63 33 [l0, l1, l2, l3, l4, l5] [.int 3, s3, s2, s1, s0] H r := q_iconst (mo_63 32 rfl) rfl rfl
theorem r63_33 : Runs xs sl d 63 33 [l0, l1, l2, l3, l4, l5] [.int u4, .int u3, s2, s1, s0] H r ↔ Runs xs sl d 63 34 [l0, l1, l2, l3, l4, l5] [.int (u3 - u4), s2, s1, s0] H r := q_isub (mo_63 33 rfl) rfl
theorem r63_34 : Runs xs sl (d + 1) 63 34 [l0, l1, l2, l3, l4, l5] [.int u3, .int u2, .int u1, .ref b0] H r ↔ ∃ v H1, Runs xs sl d 62 0 [some (.ref b0), some (.int u1), some (.int u2), some (.int u3), none, none, none] [] H (v, H1) ∧ Runs xs sl (d + 1) 63 37 [l0, l1, l2, l3, l4, l5] (v.toList ++ []) H1 r := q_callS (M' := 62) (as := [.ref b0, .int u1, .int u2, .int u3]) (rest := []) (mo_63 34 rfl) mow_63 rfl mmx_62 rfl (Nat.le_of_ble_eq_true rfl) (Nat.le_of_ble_eq_true rfl) rfl rfl
theorem r63_37 : Runs xs sl d 63 37 [l0, l1, l2, l3, some (.int i4), l5] [.int u0] H r ↔ Runs xs sl d 63 39 [l0, l1, l2, l3, some (.int i4), some (.int u0)] [] H r := q_istore (mo_63 37 rfl) (Nat.le_of_ble_eq_true rfl) rfl rfl
theorem r63_39 : Runs xs sl d 63 39 [some (.ref a0), l1, l2, l3, l4, l5] [] H r ↔ Runs xs sl d 63 40 [some (.ref a0), l1, l2, l3, l4, l5] [.ref a0] H r := q_aload_n (mo_63 39 rfl) rfl rfl
theorem r63_40 : Runs xs sl d 63 40 [l0, l1, l2, l3, l4, l5] [.ref b0] H r ↔ ∃ v, hO H b0 2 0 = some v ∧ Runs xs sl d 63 43 [l0, l1, l2, l3, l4, l5] [v] H r := q_getf (mo_63 40 rfl) mow_63 rfl rfl
theorem r63_43 : Runs xs sl d 63 43 [l0, l1, l2, l3, some (.int i4), l5] [s0] H r ↔ Runs xs sl d 63 45 [l0, l1, l2, l3, some (.int i4), l5] [.int i4, s0] H r := q_iload (mo_63 43 rfl) rfl rfl
theorem r63_45 : Runs xs sl d 63 45 [l0, l1, l2, l3, l4, l5] [s1, s0] H r ↔ Runs xs sl d 63 47 [l0, l1, l2, l3, l4, l5] [.int 7, s1, s0] H r := q_bipush (mo_63 45 rfl) rfl rfl
theorem r63_47 : Runs xs sl d 63 47 [l0, l1, l2, l3, l4, l5] [.int u2, .int u1, s0] H r ↔ Runs xs sl d 63 48 [l0, l1, l2, l3, l4, l5] [.int (u1 * u2), s0] H r := q_imul (mo_63 47 rfl) rfl
theorem r63_48 : Runs xs sl d 63 48 [l0, l1, l2, some (.int i3), l4, l5] [s1, s0] H r ↔ Runs xs sl d 63 49 [l0, l1, l2, some (.int i3), l4, l5] [.int i3, s1, s0] H r := q_iload_n (mo_63 48 rfl) rfl rfl
theorem r63_49 : Runs xs sl d 63 49 [l0, l1, l2, l3, l4, l5] [.int u2, .int u1, s0] H r ↔ Runs xs sl d 63 50 [l0, l1, l2, l3, l4, l5] [.int (u1 + u2), s0] H r := q_iadd (mo_63 49 rfl) rfl
theorem r63_50 : Runs xs sl d 63 50 [l0, l1, l2, l3, l4, some (.int i5)] [s1, s0] H r ↔ Runs xs sl d 63 52 [l0, l1, l2, l3, l4, some (.int i5)] [.int i5, s1, s0] H r := q_iload (mo_63 50 rfl) rfl rfl
theorem r63_52 : Runs xs sl d 63 52 [l0, l1, l2, l3, l4, l5] [.int u2, .int u1, .ref b0] H r ↔ ∃ H1, hAw H b0 0 u1 u2 = some H1 ∧ Runs xs sl d 63 53 [l0, l1, l2, l3, l4, l5] [] H1 r := run_iast (mo_63 52 rfl) rfl
theorem r63_53 : Runs xs sl d 63 53 [some (.ref a0), l1, l2, l3, l4, l5] [] H r ↔ Runs xs sl d 63 54 [some (.ref a0), l1, l2, l3, l4, l5] [.ref a0] H r := q_aload_n (mo_63 53 rfl) rfl rfl
theorem r63_54 : Runs xs sl d 63 54 [l0, l1, l2, l3, l4, l5] [.ref b0] H r ↔ ∃ v, hO H b0 2 1 = some v ∧ Runs xs sl d 63 57 [l0, l1, l2, l3, l4, l5] [v] H r := q_getf (mo_63 54 rfl) mow_63 rfl rfl
theorem r63_57 : Runs xs sl d 63 57 [l0, l1, l2, some (.int i3), l4, l5] [s0] H r ↔ Runs xs sl d 63 58 [l0, l1, l2, some (.int i3), l4, l5] [.int i3, s0] H r := q_iload_n (mo_63 57 rfl) rfl rfl
theorem r63_58 : Runs xs sl d 63 58 [some (.ref a0), l1, l2, l3, l4, l5] [s1, s0] H r ↔ Runs xs sl d 63 59 [some (.ref a0), l1, l2, l3, l4, l5] [.ref a0, s1, s0] H r := q_aload_n (mo_63 58 rfl) rfl rfl
theorem r63_59 : Runs xs sl d 63 59 [l0, l1, l2, l3, l4, l5] [.ref b2, s1, s0] H r ↔ ∃ v, hO H b2 2 1 = some v ∧ Runs xs sl d 63 62 [l0, l1, l2, l3, l4, l5] [v, s1, s0] H r := q_getf (mo_63 59 rfl) mow_63 rfl rfl
theorem r63_62 : Runs xs sl d 63 62 [l0, l1, l2, some (.int i3), l4, l5] [s2, s1, s0] H r ↔ Runs xs sl d 63 63 [l0, l1, l2, some (.int i3), l4, l5] [.int i3, s2, s1, s0] H r := q_iload_n (mo_63 62 rfl) rfl rfl
theorem r63_63 : Runs xs sl d 63 63 [l0, l1, l2, l3, l4, l5] [.int u3, .ref b2, s1, s0] H r ↔ ∃ v, hA H b2 0 u3 = some v ∧ Runs xs sl d 63 64 [l0, l1, l2, l3, l4, l5] [.int v, s1, s0] H r := run_iald (mo_63 63 rfl) rfl
theorem r63_64 : Runs xs sl d 63 64 [l0, l1, l2, l3, l4, some (.int i5)] [s2, s1, s0] H r ↔ Runs xs sl d 63 66 [l0, l1, l2, l3, l4, some (.int i5)] [.int i5, s2, s1, s0] H r := q_iload (mo_63 64 rfl) rfl rfl
theorem r63_66 : Runs xs sl (d + 1) 63 66 [l0, l1, l2, l3, l4, l5] [.int u3, .int u2, .int u1, .ref b0] H r ↔ Runs xs sl (d + 1) 63 69 [l0, l1, l2, l3, l4, l5] [.int (if u2 < u3 then u3 else u2), .int u1, .ref b0] H r := q_mmax (mo_63 66 rfl) mow_63 rfl (Nat.le_of_ble_eq_true rfl) rfl
theorem r63_69 : Runs xs sl d 63 69 [l0, l1, l2, l3, l4, l5] [.int u2, .int u1, .ref b0] H r ↔ ∃ H1, hAw H b0 0 u1 u2 = some H1 ∧ Runs xs sl d 63 70 [l0, l1, l2, l3, l4, l5] [] H1 r := run_iast (mo_63 69 rfl) rfl
theorem r63_70 : Runs xs sl d 63 70 [l0, l1, l2, some (.int i3), some (.int i4), l5] [] H r ↔ Runs xs sl d 63 73 [l0, l1, l2, some (.int i3), some (.int (i4 + 1)), l5] [] H r := q_iinc (mo_63 70 rfl) rfl (Nat.le_of_ble_eq_true rfl) rfl rfl
theorem r63_73 : Runs xs sl d 63 73 [l0, l1, l2, l3, l4, l5] [] H r ↔ Runs xs sl d 63 18 [l0, l1, l2, l3, l4, l5] [] H r := q_goto (mo_63 73 rfl) rfl
theorem r63_76 : Runs xs sl d 63 76 [l0, l1, some (.int i2), some (.int i3), l4, l5] [] H r ↔ Runs xs sl d 63 79 [l0, l1, some (.int i2), some (.int (i3 + 1)), l4, l5] [] H r := q_iinc (mo_63 76 rfl) rfl (Nat.le_of_ble_eq_true rfl) rfl rfl
theorem r63_79 : Runs xs sl d 63 79 [l0, l1, l2, l3, l4, l5] [] H r ↔ Runs xs sl d 63 2 [l0, l1, l2, l3, l4, l5] [] H r := q_goto (mo_63 79 rfl) rfl
theorem r63_82 : Runs xs sl d 63 82 [l0, l1, l2, l3, l4, l5] [] H r ↔ r = (none, H) := q_ret (mo_63 82 rfl) mrt_63
theorem r64_0 : Runs xs sl d 64 0 [l0, l1, l2, l3] [] H r ↔ Runs xs sl d 64 1 [l0, l1, l2, l3] [.int 0] H r := q_iconst (mo_64 0 rfl) rfl rfl
theorem r64_1 : Runs xs sl d 64 1 [l0, some (.int i1), l2, l3] [.int u0] H r ↔ Runs xs sl d 64 2 [l0, some (.int i1), some (.int u0), l3] [] H r := q_istore_n (mo_64 1 rfl) (Nat.le_of_ble_eq_true rfl) rfl rfl
theorem r64_2 : Runs xs sl d 64 2 [l0, l1, l2, l3] [] H r ↔ Runs xs sl d 64 3 [l0, l1, l2, l3] [.int 0] H r := q_iconst (mo_64 2 rfl) rfl rfl
theorem r64_3 : Runs xs sl d 64 3 [l0, l1, some (.int i2), l3] [.int u0] H r ↔ Runs xs sl d 64 4 [l0, l1, some (.int i2), some (.int u0)] [] H r := q_istore_n (mo_64 3 rfl) (Nat.le_of_ble_eq_true rfl) rfl rfl
theorem r64_4 : Runs xs sl d 64 4 [l0, l1, l2, some (.int i3)] [] H r ↔ Runs xs sl d 64 5 [l0, l1, l2, some (.int i3)] [.int i3] H r := q_iload_n (mo_64 4 rfl) rfl rfl
theorem r64_5 : Runs xs sl d 64 5 [l0, l1, l2, l3] [s0] H r ↔ Runs xs sl d 64 7 [l0, l1, l2, l3] [.int 49, s0] H r := q_bipush (mo_64 5 rfl) rfl rfl
theorem r64_7 : Runs xs sl d 64 7 [l0, l1, l2, l3] [.int u1, .int u0] H r ↔ if u1 ≤ u0 then Runs xs sl d 64 41 [l0, l1, l2, l3] [] H r else Runs xs sl d 64 10 [l0, l1, l2, l3] [] H r := q_icmp_ge (mo_64 7 rfl) rfl rfl
theorem r64_10 : Runs xs sl d 64 10 [some (.ref a0), l1, l2, l3] [] H r ↔ Runs xs sl d 64 11 [some (.ref a0), l1, l2, l3] [.ref a0] H r := q_aload_n (mo_64 10 rfl) rfl rfl
theorem r64_11 : Runs xs sl d 64 11 [l0, l1, l2, some (.int i3)] [s0] H r ↔ Runs xs sl d 64 12 [l0, l1, l2, some (.int i3)] [.int i3, s0] H r := q_iload_n (mo_64 11 rfl) rfl rfl
theorem r64_12 : Runs xs sl d 64 12 [l0, l1, l2, l3] [s1, s0] H r ↔ Runs xs sl d 64 14 [l0, l1, l2, l3] [.int 7, s1, s0] H r := q_bipush (mo_64 12 rfl) rfl rfl
theorem r64_14 (h : ¬ u2 = 0) : Runs xs sl d 64 14 [l0, l1, l2, l3] [.int u2, .int u1, s0] H r ↔ Runs xs sl d 64 15 [l0, l1, l2, l3] [.int (u1 / u2), s0] H r := q_idiv (mo_64 14 rfl) h rfl
theorem r64_15 : Runs xs sl d 64 15 [l0, l1, l2, some (.int i3)] [s1, s0] H r ↔ Runs xs sl d 64 16 [l0, l1, l2, some (.int i3)] [.int i3, s1, s0] H r := q_iload_n (mo_64 15 rfl) rfl rfl
theorem r64_16 : Runs xs sl d 64 16 [l0, l1, l2, l3] [s2, s1, s0] H r ↔ Runs xs sl d 64 18 [l0, l1, l2, l3] [.int 7, s2, s1, s0] H r := q_bipush (mo_64 16 rfl) rfl rfl
theorem r64_18 (h : ¬ u3 = 0) : Runs xs sl d 64 18 [l0, l1, l2, l3] [.int u3, .int u2, s1, s0] H r ↔ Runs xs sl d 64 19 [l0, l1, l2, l3] [.int (u2 - u2 / u3 * u3), s1, s0] H r := q_irem (mo_64 18 rfl) h rfl
theorem r64_19 (hc : hC H b0 = some 2) : Runs xs sl (d + 1) 64 19 [l0, l1, l2, l3] [.int u2, .int u1, .ref b0] H r ↔ ∃ v H1, Runs xs sl d 65 0 [some (.ref b0), some (.int u1), some (.int u2)] [] H (v, H1) ∧ Runs xs sl (d + 1) 64 22 [l0, l1, l2, l3] (v.toList ++ []) H1 r := q_callV (M' := 65) (as := [.int u1, .int u2]) (rest := []) (mo_64 19 rfl) mow_64 rfl mcs_65 mmx_65 rfl (Nat.le_of_ble_eq_true rfl) (Nat.le_of_ble_eq_true rfl) rfl rfl hc
theorem r64_22 : Runs xs sl d 64 22 [l0, l1, l2, l3] [.int u0] H r ↔ if u0 = 0 then Runs xs sl d 64 35 [l0, l1, l2, l3] [] H r else Runs xs sl d 64 25 [l0, l1, l2, l3] [] H r := q_if_eq (mo_64 22 rfl) rfl rfl
theorem r64_25 : Runs xs sl d 64 25 [l0, l1, some (.int i2), l3] [] H r ↔ Runs xs sl d 64 26 [l0, l1, some (.int i2), l3] [.int i2] H r := q_iload_n (mo_64 25 rfl) rfl rfl
theorem r64_26 : Runs xs sl d 64 26 [l0, some (.int i1), l2, l3] [s0] H r ↔ Runs xs sl d 64 27 [l0, some (.int i1), l2, l3] [.int i1, s0] H r := q_iload_n (mo_64 26 rfl) rfl rfl
theorem r64_27 : Runs xs sl d 64 27 [l0, l1, l2, l3] [.int u1, .int u0] H r ↔ if ¬ u0 = u1 then Runs xs sl d 64 32 [l0, l1, l2, l3] [] H r else Runs xs sl d 64 30 [l0, l1, l2, l3] [] H r := q_icmp_ne (mo_64 27 rfl) rfl rfl
theorem r64_30 : Runs xs sl d 64 30 [l0, l1, l2, some (.int i3)] [] H r ↔ Runs xs sl d 64 31 [l0, l1, l2, some (.int i3)] [.int i3] H r := q_iload_n (mo_64 30 rfl) rfl rfl
theorem r64_31 : Runs xs sl d 64 31 [l0, l1, l2, l3] [.int u0] H r ↔ r = (some (.int u0), H) := q_iret (mo_64 31 rfl) mrt_64
theorem r64_32 : Runs xs sl d 64 32 [l0, some (.int i1), some (.int i2), l3] [] H r ↔ Runs xs sl d 64 35 [l0, some (.int i1), some (.int (i2 + 1)), l3] [] H r := q_iinc (mo_64 32 rfl) rfl (Nat.le_of_ble_eq_true rfl) rfl rfl
theorem r64_35 : Runs xs sl d 64 35 [l0, l1, some (.int i2), some (.int i3)] [] H r ↔ Runs xs sl d 64 38 [l0, l1, some (.int i2), some (.int (i3 + 1))] [] H r := q_iinc (mo_64 35 rfl) rfl (Nat.le_of_ble_eq_true rfl) rfl rfl
theorem r64_38 : Runs xs sl d 64 38 [l0, l1, l2, l3] [] H r ↔ Runs xs sl d 64 4 [l0, l1, l2, l3] [] H r := q_goto (mo_64 38 rfl) rfl
theorem r64_41 : Runs xs sl d 64 41 [l0, some (.int i1), l2, l3] [] H r ↔ Runs xs sl d 64 42 [l0, some (.int i1), l2, l3] [.int i1] H r := q_iload_n (mo_64 41 rfl) rfl rfl
theorem r64_42 : Runs xs sl d 64 42 [l0, l1, l2, l3] [s0] H r ↔ Runs xs sl d 64 43 [l0, l1, l2, l3] [.int (-1), s0] H r := q_iconst (mo_64 42 rfl) rfl rfl
theorem r64_43 : Runs xs sl d 64 43 [l0, l1, l2, l3] [.int u1, .int u0] H r ↔ if ¬ u0 = u1 then Runs xs sl d 64 50 [l0, l1, l2, l3] [] H r else Runs xs sl d 64 46 [l0, l1, l2, l3] [] H r := q_icmp_ne (mo_64 43 rfl) rfl rfl
theorem r64_46 : Runs xs sl d 64 46 [l0, l1, some (.int i2), l3] [] H r ↔ Runs xs sl d 64 47 [l0, l1, some (.int i2), l3] [.int i2] H r := q_iload_n (mo_64 46 rfl) rfl rfl
theorem r64_47 : Runs xs sl d 64 47 [l0, l1, l2, l3] [s0] H r ↔ Runs xs sl d 64 51 [l0, l1, l2, l3] [s0] H r := q_goto (mo_64 47 rfl) rfl
theorem r64_50 : Runs xs sl d 64 50 [l0, l1, l2, l3] [] H r ↔ Runs xs sl d 64 51 [l0, l1, l2, l3] [.int (-1)] H r := q_iconst (mo_64 50 rfl) rfl rfl
theorem r64_51 : Runs xs sl d 64 51 [l0, l1, l2, l3] [.int u0] H r ↔ r = (some (.int u0), H) := q_iret (mo_64 51 rfl) mrt_64
theorem r65_0 : Runs xs sl d 65 0 [some (.ref a0), l1, l2] [] H r ↔ Runs xs sl d 65 1 [some (.ref a0), l1, l2] [.ref a0] H r := q_aload_n (mo_65 0 rfl) rfl rfl
theorem r65_1 : Runs xs sl d 65 1 [l0, l1, l2] [.ref b0] H r ↔ ∃ v, hO H b0 2 0 = some v ∧ Runs xs sl d 65 4 [l0, l1, l2] [v] H r := q_getf (mo_65 1 rfl) mow_65 rfl rfl
theorem r65_4 : Runs xs sl d 65 4 [l0, some (.int i1), l2] [s0] H r ↔ Runs xs sl d 65 5 [l0, some (.int i1), l2] [.int i1, s0] H r := q_iload_n (mo_65 4 rfl) rfl rfl
theorem r65_5 : Runs xs sl d 65 5 [l0, l1, l2] [s1, s0] H r ↔ Runs xs sl d 65 7 [l0, l1, l2] [.int 7, s1, s0] H r := q_bipush (mo_65 5 rfl) rfl rfl
theorem r65_7 : Runs xs sl d 65 7 [l0, l1, l2] [.int u2, .int u1, s0] H r ↔ Runs xs sl d 65 8 [l0, l1, l2] [.int (u1 * u2), s0] H r := q_imul (mo_65 7 rfl) rfl
theorem r65_8 : Runs xs sl d 65 8 [l0, l1, some (.int i2)] [s1, s0] H r ↔ Runs xs sl d 65 9 [l0, l1, some (.int i2)] [.int i2, s1, s0] H r := q_iload_n (mo_65 8 rfl) rfl rfl
theorem r65_9 : Runs xs sl d 65 9 [l0, l1, l2] [.int u2, .int u1, s0] H r ↔ Runs xs sl d 65 10 [l0, l1, l2] [.int (u1 + u2), s0] H r := q_iadd (mo_65 9 rfl) rfl
theorem r65_10 : Runs xs sl d 65 10 [l0, l1, l2] [.int u1, .ref b0] H r ↔ ∃ v, hA H b0 0 u1 = some v ∧ Runs xs sl d 65 11 [l0, l1, l2] [.int v] H r := run_iald (mo_65 10 rfl) rfl
theorem r65_11 : Runs xs sl d 65 11 [some (.ref a0), l1, l2] [s0] H r ↔ Runs xs sl d 65 12 [some (.ref a0), l1, l2] [.ref a0, s0] H r := q_aload_n (mo_65 11 rfl) rfl rfl
theorem r65_12 : Runs xs sl d 65 12 [l0, l1, l2] [.ref b1, s0] H r ↔ ∃ v, hO H b1 2 1 = some v ∧ Runs xs sl d 65 15 [l0, l1, l2] [v, s0] H r := q_getf (mo_65 12 rfl) mow_65 rfl rfl
theorem r65_15 : Runs xs sl d 65 15 [l0, l1, some (.int i2)] [s1, s0] H r ↔ Runs xs sl d 65 16 [l0, l1, some (.int i2)] [.int i2, s1, s0] H r := q_iload_n (mo_65 15 rfl) rfl rfl
theorem r65_16 : Runs xs sl d 65 16 [l0, l1, l2] [.int u2, .ref b1, s0] H r ↔ ∃ v, hA H b1 0 u2 = some v ∧ Runs xs sl d 65 17 [l0, l1, l2] [.int v, s0] H r := run_iald (mo_65 16 rfl) rfl
theorem r65_17 : Runs xs sl d 65 17 [l0, l1, l2] [.int u1, .int u0] H r ↔ if ¬ u0 = u1 then Runs xs sl d 65 44 [l0, l1, l2] [] H r else Runs xs sl d 65 20 [l0, l1, l2] [] H r := q_icmp_ne (mo_65 17 rfl) rfl rfl
theorem r65_20 : Runs xs sl d 65 20 [some (.ref a0), l1, l2] [] H r ↔ Runs xs sl d 65 21 [some (.ref a0), l1, l2] [.ref a0] H r := q_aload_n (mo_65 20 rfl) rfl rfl
theorem r65_21 : Runs xs sl d 65 21 [l0, l1, l2] [.ref b0] H r ↔ ∃ v, hO H b0 2 0 = some v ∧ Runs xs sl d 65 24 [l0, l1, l2] [v] H r := q_getf (mo_65 21 rfl) mow_65 rfl rfl
theorem r65_24 : Runs xs sl d 65 24 [l0, l1, some (.int i2)] [s0] H r ↔ Runs xs sl d 65 25 [l0, l1, some (.int i2)] [.int i2, s0] H r := q_iload_n (mo_65 24 rfl) rfl rfl
theorem r65_25 : Runs xs sl d 65 25 [l0, l1, l2] [s1, s0] H r ↔ Runs xs sl d 65 27 [l0, l1, l2] [.int 7, s1, s0] H r := q_bipush (mo_65 25 rfl) rfl rfl
theorem r65_27 : Runs xs sl d 65 27 [l0, l1, l2] [.int u2, .int u1, s0] H r ↔ Runs xs sl d 65 28 [l0, l1, l2] [.int (u1 * u2), s0] H r := q_imul (mo_65 27 rfl) rfl
theorem r65_28 : Runs xs sl d 65 28 [l0, some (.int i1), l2] [s1, s0] H r ↔ Runs xs sl d 65 29 [l0, some (.int i1), l2] [.int i1, s1, s0] H r := q_iload_n (mo_65 28 rfl) rfl rfl
theorem r65_29 : Runs xs sl d 65 29 [l0, l1, l2] [.int u2, .int u1, s0] H r ↔ Runs xs sl d 65 30 [l0, l1, l2] [.int (u1 + u2), s0] H r := q_iadd (mo_65 29 rfl) rfl
theorem r65_30 : Runs xs sl d 65 30 [l0, l1, l2] [.int u1, .ref b0] H r ↔ ∃ v, hA H b0 0 u1 = some v ∧ Runs xs sl d 65 31 [l0, l1, l2] [.int v] H r := run_iald (mo_65 30 rfl) rfl
theorem r65_31 : Runs xs sl d 65 31 [some (.ref a0), l1, l2] [s0] H r ↔ Runs xs sl d 65 32 [some (.ref a0), l1, l2] [.ref a0, s0] H r := q_aload_n (mo_65 31 rfl) rfl rfl
theorem r65_32 : Runs xs sl d 65 32 [l0, l1, l2] [.ref b1, s0] H r ↔ ∃ v, hO H b1 2 1 = some v ∧ Runs xs sl d 65 35 [l0, l1, l2] [v, s0] H r := q_getf (mo_65 32 rfl) mow_65 rfl rfl
theorem r65_35 : Runs xs sl d 65 35 [l0, some (.int i1), l2] [s1, s0] H r ↔ Runs xs sl d 65 36 [l0, some (.int i1), l2] [.int i1, s1, s0] H r := q_iload_n (mo_65 35 rfl) rfl rfl
theorem r65_36 : Runs xs sl d 65 36 [l0, l1, l2] [.int u2, .ref b1, s0] H r ↔ ∃ v, hA H b1 0 u2 = some v ∧ Runs xs sl d 65 37 [l0, l1, l2] [.int v, s0] H r := run_iald (mo_65 36 rfl) rfl
theorem r65_37 : Runs xs sl d 65 37 [l0, l1, l2] [.int u1, .int u0] H r ↔ if ¬ u0 = u1 then Runs xs sl d 65 44 [l0, l1, l2] [] H r else Runs xs sl d 65 40 [l0, l1, l2] [] H r := q_icmp_ne (mo_65 37 rfl) rfl rfl
theorem r65_40 : Runs xs sl d 65 40 [l0, l1, l2] [] H r ↔ Runs xs sl d 65 41 [l0, l1, l2] [.int 1] H r := q_iconst (mo_65 40 rfl) rfl rfl
theorem r65_41 : Runs xs sl d 65 41 [l0, l1, l2] [s0] H r ↔ Runs xs sl d 65 45 [l0, l1, l2] [s0] H r := q_goto (mo_65 41 rfl) rfl
theorem r65_44 : Runs xs sl d 65 44 [l0, l1, l2] [] H r ↔ Runs xs sl d 65 45 [l0, l1, l2] [.int 0] H r := q_iconst (mo_65 44 rfl) rfl rfl
theorem r65_45 (h : u0 = 0 ∨ u0 = 1) : Runs xs sl d 65 45 [l0, l1, l2] [.int u0] H r ↔ r = (some (.int u0), H) := q_zret (mo_65 45 rfl) mrt_65 h
theorem r66_0 : Runs xs sl d 66 0 [some (.ref a0), l1] [] H r ↔ Runs xs sl d 66 1 [some (.ref a0), l1] [.ref a0] H r := q_aload_n (mo_66 0 rfl) rfl rfl
theorem r66_1 : Runs xs sl (d + 1) 66 1 [l0, l1] [.ref b0] H r ↔ ∃ v H1, Runs xs sl d 292 0 [some (.ref b0)] [] H (v, H1) ∧ Runs xs sl (d + 1) 66 4 [l0, l1] (v.toList ++ []) H1 r := q_callI (M' := 292) (as := []) (rest := []) (mo_66 1 rfl) mow_66 rfl mmx_292 rfl (Nat.le_of_ble_eq_true rfl) (Nat.le_of_ble_eq_true rfl) rfl rfl
theorem r66_4 : Runs xs sl d 66 4 [some (.ref a0), l1] [] H r ↔ Runs xs sl d 66 5 [some (.ref a0), l1] [.ref a0] H r := q_aload_n (mo_66 4 rfl) rfl rfl
theorem r66_5 : Runs xs sl d 66 5 [l0, l1] [s0] H r ↔ Runs xs sl d 66 8 [l0, l1] [.int 1536, s0] H r := q_sipush (mo_66 5 rfl) rfl rfl
theorem r66_8 (h : ¬ (u1 < 0 ∨ 100000 < u1.toNatClampNeg)) : Runs xs sl d 66 8 [l0, l1] [.int u1, s0] H r ↔ Runs xs sl d 66 10 [l0, l1] [.ref H.2.1, s0] (mnew H (mI 0 u1.toNatClampNeg (fun _ => 0)) u1.toNatClampNeg) r := q_newa_int (mo_66 8 rfl) rfl h
theorem r66_10 : Runs xs sl d 66 10 [l0, l1] [.ref b1, .ref b0] H r ↔ ∃ H1, hOw H b0 3 4 (.ref b1) = some H1 ∧ Runs xs sl d 66 13 [l0, l1] [] H1 r := q_putf (mo_66 10 rfl) mow_66 rfl rfl (by decide +kernel) rfl
theorem r66_13 : Runs xs sl d 66 13 [some (.ref a0), l1] [] H r ↔ Runs xs sl d 66 14 [some (.ref a0), l1] [.ref a0] H r := q_aload_n (mo_66 13 rfl) rfl rfl
theorem r66_14 : Runs xs sl d 66 14 [l0, l1] [s0] H r ↔ Runs xs sl d 66 17 [l0, l1] [.int 256, s0] H r := q_sipush (mo_66 14 rfl) rfl rfl
theorem r66_17 (h : ¬ (u1 < 0 ∨ 100000 < u1.toNatClampNeg)) : Runs xs sl d 66 17 [l0, l1] [.int u1, s0] H r ↔ Runs xs sl d 66 19 [l0, l1] [.ref H.2.1, s0] (mnew H (mI 0 u1.toNatClampNeg (fun _ => 0)) u1.toNatClampNeg) r := q_newa_int (mo_66 17 rfl) rfl h
theorem r66_19 : Runs xs sl d 66 19 [l0, l1] [.ref b1, .ref b0] H r ↔ ∃ H1, hOw H b0 3 5 (.ref b1) = some H1 ∧ Runs xs sl d 66 22 [l0, l1] [] H1 r := q_putf (mo_66 19 rfl) mow_66 rfl rfl (by decide +kernel) rfl
theorem r66_22 : Runs xs sl d 66 22 [some (.ref a0), l1] [] H r ↔ Runs xs sl d 66 23 [some (.ref a0), l1] [.ref a0] H r := q_aload_n (mo_66 22 rfl) rfl rfl
theorem r66_23 : Runs xs sl d 66 23 [l0, l1] [s0] H r ↔ Runs xs sl d 66 25 [l0, l1] [.int 54, s0] H r := q_bipush (mo_66 23 rfl) rfl rfl
theorem r66_25 (h : ¬ (u1 < 0 ∨ 100000 < u1.toNatClampNeg)) : Runs xs sl d 66 25 [l0, l1] [.int u1, s0] H r ↔ Runs xs sl d 66 27 [l0, l1] [.ref H.2.1, s0] (mnew H (mI 0 u1.toNatClampNeg (fun _ => 0)) u1.toNatClampNeg) r := q_newa_int (mo_66 25 rfl) rfl h
theorem r66_27 : Runs xs sl d 66 27 [l0, l1] [.ref b1, .ref b0] H r ↔ ∃ H1, hOw H b0 3 6 (.ref b1) = some H1 ∧ Runs xs sl d 66 30 [l0, l1] [] H1 r := q_putf (mo_66 27 rfl) mow_66 rfl rfl (by decide +kernel) rfl
theorem r66_30 : Runs xs sl d 66 30 [some (.ref a0), l1] [] H r ↔ Runs xs sl d 66 31 [some (.ref a0), l1] [.ref a0] H r := q_aload_n (mo_66 30 rfl) rfl rfl
theorem r66_31 : Runs xs sl d 66 31 [l0, l1] [s0] H r ↔ Runs xs sl d 66 34 [l0, l1] [.int 2048, s0] H r := q_sipush (mo_66 31 rfl) rfl rfl
theorem r66_34 (h : ¬ (u1 < 0 ∨ 100000 < u1.toNatClampNeg)) : Runs xs sl d 66 34 [l0, l1] [.int u1, s0] H r ↔ Runs xs sl d 66 36 [l0, l1] [.ref H.2.1, s0] (mnew H (mI 0 u1.toNatClampNeg (fun _ => 0)) u1.toNatClampNeg) r := q_newa_int (mo_66 34 rfl) rfl h
theorem r66_36 : Runs xs sl d 66 36 [l0, l1] [.ref b1, .ref b0] H r ↔ ∃ H1, hOw H b0 3 7 (.ref b1) = some H1 ∧ Runs xs sl d 66 39 [l0, l1] [] H1 r := q_putf (mo_66 36 rfl) mow_66 rfl rfl (by decide +kernel) rfl
theorem r66_39 : Runs xs sl d 66 39 [some (.ref a0), l1] [] H r ↔ Runs xs sl d 66 40 [some (.ref a0), l1] [.ref a0] H r := q_aload_n (mo_66 39 rfl) rfl rfl
theorem r66_40 : Runs xs sl d 66 40 [l0, some (.ref a1)] [s0] H r ↔ Runs xs sl d 66 41 [l0, some (.ref a1)] [.ref a1, s0] H r := q_aload_n (mo_66 40 rfl) rfl rfl
theorem r66_40n : Runs xs sl d 66 40 [l0, some .null] [s0] H r ↔ Runs xs sl d 66 41 [l0, some .null] [.null, s0] H r := q_aload_nN (mo_66 40 rfl) rfl rfl
theorem r66_41 : Runs xs sl d 66 41 [l0, l1] [.ref b1, .ref b0] H r ↔ ∃ H1, hOw H b0 3 3 (.ref b1) = some H1 ∧ Runs xs sl d 66 44 [l0, l1] [] H1 r := q_putf (mo_66 41 rfl) mow_66 rfl rfl (by decide +kernel) rfl
theorem r66_44 : Runs xs sl d 66 44 [l0, l1] [] H r ↔ r = (none, H) := q_ret (mo_66 44 rfl) mrt_66
theorem r67_0 : Runs xs sl d 67 0 [some (.ref a0), l1, l2] [] H r ↔ Runs xs sl d 67 1 [some (.ref a0), l1, l2] [.ref a0] H r := q_aload_n (mo_67 0 rfl) rfl rfl
theorem r67_1 : Runs xs sl d 67 1 [l0, some (.int i1), l2] [s0] H r ↔ Runs xs sl d 67 2 [l0, some (.int i1), l2] [.int i1, s0] H r := q_iload_n (mo_67 1 rfl) rfl rfl
theorem r67_2 : Runs xs sl d 67 2 [l0, l1, l2] [.int u1, .ref b0] H r ↔ ∃ H1, hOw H b0 3 8 (.int u1) = some H1 ∧ Runs xs sl d 67 5 [l0, l1, l2] [] H1 r := q_putf (mo_67 2 rfl) mow_67 rfl rfl (by decide +kernel) rfl
theorem r67_5 : Runs xs sl d 67 5 [some (.ref a0), l1, l2] [] H r ↔ Runs xs sl d 67 6 [some (.ref a0), l1, l2] [.ref a0] H r := q_aload_n (mo_67 5 rfl) rfl rfl
theorem r67_6 : Runs xs sl d 67 6 [l0, l1, l2] [.ref b0] H r ↔ ∃ v, hO H b0 3 5 = some v ∧ Runs xs sl d 67 9 [l0, l1, l2] [v] H r := q_getf (mo_67 6 rfl) mow_67 rfl rfl
theorem r67_9 : Runs xs sl d 67 9 [l0, l1, l2] [s0] H r ↔ Runs xs sl d 67 11 [l0, l1, l2] [.int (-100000), s0] H r := q_ldc (mo_67 9 rfl) mow_67 rfl rfl
theorem r67_11 : Runs xs sl (d + 1) 67 11 [l0, l1, l2] [.int u1, .ref b0] H r ↔ ∃ v H1, Runs xs sl d 291 0 [some (.ref b0), some (.int u1), none, none] [] H (v, H1) ∧ Runs xs sl (d + 1) 67 14 [l0, l1, l2] (v.toList ++ []) H1 r := q_callS (M' := 291) (as := [.ref b0, .int u1]) (rest := []) (mo_67 11 rfl) mow_67 rfl mmx_291 rfl (Nat.le_of_ble_eq_true rfl) (Nat.le_of_ble_eq_true rfl) rfl rfl
theorem r67_14 : Runs xs sl d 67 14 [some (.ref a0), l1, l2] [] H r ↔ Runs xs sl d 67 15 [some (.ref a0), l1, l2] [.ref a0] H r := q_aload_n (mo_67 14 rfl) rfl rfl
theorem r67_15 : Runs xs sl d 67 15 [l0, l1, l2] [.ref b0] H r ↔ ∃ v, hO H b0 3 5 = some v ∧ Runs xs sl d 67 18 [l0, l1, l2] [v] H r := q_getf (mo_67 15 rfl) mow_67 rfl rfl
theorem r67_18 : Runs xs sl d 67 18 [l0, l1, l2] [s0] H r ↔ Runs xs sl d 67 19 [l0, l1, l2] [.int 0, s0] H r := q_iconst (mo_67 18 rfl) rfl rfl
theorem r67_19 : Runs xs sl d 67 19 [l0, l1, l2] [s1, s0] H r ↔ Runs xs sl d 67 20 [l0, l1, l2] [.int 0, s1, s0] H r := q_iconst (mo_67 19 rfl) rfl rfl
theorem r67_20 : Runs xs sl d 67 20 [l0, l1, l2] [.int u2, .int u1, .ref b0] H r ↔ ∃ H1, hAw H b0 0 u1 u2 = some H1 ∧ Runs xs sl d 67 21 [l0, l1, l2] [] H1 r := run_iast (mo_67 20 rfl) rfl
theorem r67_21 : Runs xs sl d 67 21 [l0, l1, l2] [] H r ↔ Runs xs sl d 67 22 [l0, l1, l2] [.int 0] H r := q_iconst (mo_67 21 rfl) rfl rfl
theorem r67_22 : Runs xs sl d 67 22 [l0, some (.int i1), l2] [.int u0] H r ↔ Runs xs sl d 67 23 [l0, some (.int i1), some (.int u0)] [] H r := q_istore_n (mo_67 22 rfl) (Nat.le_of_ble_eq_true rfl) rfl rfl
theorem r67_23 : Runs xs sl d 67 23 [l0, l1, some (.int i2)] [] H r ↔ Runs xs sl d 67 24 [l0, l1, some (.int i2)] [.int i2] H r := q_iload_n (mo_67 23 rfl) rfl rfl
theorem r67_24 : Runs xs sl d 67 24 [some (.ref a0), l1, l2] [s0] H r ↔ Runs xs sl d 67 25 [some (.ref a0), l1, l2] [.ref a0, s0] H r := q_aload_n (mo_67 24 rfl) rfl rfl
theorem r67_25 : Runs xs sl d 67 25 [l0, l1, l2] [.ref b1, s0] H r ↔ ∃ v, hO H b1 3 3 = some v ∧ Runs xs sl d 67 28 [l0, l1, l2] [v, s0] H r := q_getf (mo_67 25 rfl) mow_67 rfl rfl
theorem r67_28 : Runs xs sl d 67 28 [l0, l1, l2] [.ref b1, s0] H r ↔ ∃ v, hO H b1 6 0 = some v ∧ Runs xs sl d 67 31 [l0, l1, l2] [v, s0] H r := q_getf (mo_67 28 rfl) mow_67 rfl rfl
theorem r67_31 : Runs xs sl d 67 31 [l0, l1, l2] [.ref b1, s0] H r ↔ ∃ v, hO H b1 8 2 = some v ∧ Runs xs sl d 67 34 [l0, l1, l2] [v, s0] H r := q_getf (mo_67 31 rfl) mow_67 rfl rfl
theorem r67_34 : Runs xs sl d 67 34 [l0, l1, l2] [.int u1, .int u0] H r ↔ if u1 ≤ u0 then Runs xs sl d 67 64 [l0, l1, l2] [] H r else Runs xs sl d 67 37 [l0, l1, l2] [] H r := q_icmp_ge (mo_67 34 rfl) rfl rfl
theorem r67_37 : Runs xs sl d 67 37 [some (.ref a0), l1, l2] [] H r ↔ Runs xs sl d 67 38 [some (.ref a0), l1, l2] [.ref a0] H r := q_aload_n (mo_67 37 rfl) rfl rfl
theorem r67_38 : Runs xs sl d 67 38 [l0, l1, some (.int i2)] [s0] H r ↔ Runs xs sl d 67 39 [l0, l1, some (.int i2)] [.int i2, s0] H r := q_iload_n (mo_67 38 rfl) rfl rfl
theorem r67_39 (hc : hC H b0 = some 3) : Runs xs sl (d + 1) 67 39 [l0, l1, l2] [.int u1, .ref b0] H r ↔ ∃ v H1, Runs xs sl d 68 0 [some (.ref b0), some (.int u1), none, none, none] [] H (v, H1) ∧ Runs xs sl (d + 1) 67 42 [l0, l1, l2] (v.toList ++ []) H1 r := q_callV (M' := 68) (as := [.int u1]) (rest := []) (mo_67 39 rfl) mow_67 rfl mcs_68 mmx_68 rfl (Nat.le_of_ble_eq_true rfl) (Nat.le_of_ble_eq_true rfl) rfl rfl hc
theorem r67_42 : Runs xs sl d 67 42 [some (.ref a0), l1, l2] [] H r ↔ Runs xs sl d 67 43 [some (.ref a0), l1, l2] [.ref a0] H r := q_aload_n (mo_67 42 rfl) rfl rfl
theorem r67_43 : Runs xs sl d 67 43 [some (.ref a0), l1, l2] [s0] H r ↔ Runs xs sl d 67 44 [some (.ref a0), l1, l2] [.ref a0, s0] H r := q_aload_n (mo_67 43 rfl) rfl rfl
theorem r67_44 : Runs xs sl d 67 44 [l0, l1, l2] [.ref b1, s0] H r ↔ ∃ v, hO H b1 3 3 = some v ∧ Runs xs sl d 67 47 [l0, l1, l2] [v, s0] H r := q_getf (mo_67 44 rfl) mow_67 rfl rfl
theorem r67_47 : Runs xs sl d 67 47 [l0, l1, l2] [.ref b1, s0] H r ↔ ∃ v, hO H b1 6 0 = some v ∧ Runs xs sl d 67 50 [l0, l1, l2] [v, s0] H r := q_getf (mo_67 47 rfl) mow_67 rfl rfl
theorem r67_50 : Runs xs sl d 67 50 [l0, l1, l2] [.ref b1, s0] H r ↔ ∃ v, hO H b1 8 5 = some v ∧ Runs xs sl d 67 53 [l0, l1, l2] [v, s0] H r := q_getf (mo_67 50 rfl) mow_67 rfl rfl
theorem r67_53 : Runs xs sl d 67 53 [l0, l1, some (.int i2)] [s1, s0] H r ↔ Runs xs sl d 67 54 [l0, l1, some (.int i2)] [.int i2, s1, s0] H r := q_iload_n (mo_67 53 rfl) rfl rfl
theorem r67_54 : Runs xs sl d 67 54 [l0, l1, l2] [.int u2, .ref b1, s0] H r ↔ ∃ v, hA H b1 0 u2 = some v ∧ Runs xs sl d 67 55 [l0, l1, l2] [.int v, s0] H r := run_iald (mo_67 54 rfl) rfl
theorem r67_55 (hc : hC H b0 = some 3) : Runs xs sl (d + 1) 67 55 [l0, l1, l2] [.int u1, .ref b0] H r ↔ ∃ v H1, Runs xs sl d 69 0 [some (.ref b0), some (.int u1), none, none, none, none] [] H (v, H1) ∧ Runs xs sl (d + 1) 67 58 [l0, l1, l2] (v.toList ++ []) H1 r := q_callV (M' := 69) (as := [.int u1]) (rest := []) (mo_67 55 rfl) mow_67 rfl mcs_69 mmx_69 rfl (Nat.le_of_ble_eq_true rfl) (Nat.le_of_ble_eq_true rfl) rfl rfl hc
theorem r67_58 : Runs xs sl d 67 58 [l0, some (.int i1), some (.int i2)] [] H r ↔ Runs xs sl d 67 61 [l0, some (.int i1), some (.int (i2 + 1))] [] H r := q_iinc (mo_67 58 rfl) rfl (Nat.le_of_ble_eq_true rfl) rfl rfl
theorem r67_61 : Runs xs sl d 67 61 [l0, l1, l2] [] H r ↔ Runs xs sl d 67 23 [l0, l1, l2] [] H r := q_goto (mo_67 61 rfl) rfl
theorem r67_64 : Runs xs sl d 67 64 [l0, l1, l2] [] H r ↔ r = (none, H) := q_ret (mo_67 64 rfl) mrt_67
theorem r68_0 : Runs xs sl d 68 0 [some (.ref a0), l1, l2, l3, l4] [] H r ↔ Runs xs sl d 68 1 [some (.ref a0), l1, l2, l3, l4] [.ref a0] H r := q_aload_n (mo_68 0 rfl) rfl rfl
theorem r68_1 : Runs xs sl d 68 1 [l0, l1, l2, l3, l4] [.ref b0] H r ↔ ∃ v, hO H b0 3 3 = some v ∧ Runs xs sl d 68 4 [l0, l1, l2, l3, l4] [v] H r := q_getf (mo_68 1 rfl) mow_68 rfl rfl
theorem r68_4 : Runs xs sl d 68 4 [l0, l1, l2, l3, l4] [.ref b0] H r ↔ ∃ v, hO H b0 6 2 = some v ∧ Runs xs sl d 68 7 [l0, l1, l2, l3, l4] [v] H r := q_getf (mo_68 4 rfl) mow_68 rfl rfl
theorem r68_7 : Runs xs sl d 68 7 [l0, some (.int i1), l2, l3, l4] [s0] H r ↔ Runs xs sl d 68 8 [l0, some (.int i1), l2, l3, l4] [.int i1, s0] H r := q_iload_n (mo_68 7 rfl) rfl rfl
theorem r68_8 : Runs xs sl d 68 8 [l0, l1, l2, l3, l4] [s1, s0] H r ↔ Runs xs sl d 68 10 [l0, l1, l2, l3, l4] [.int 6, s1, s0] H r := q_bipush (mo_68 8 rfl) rfl rfl
theorem r68_10 : Runs xs sl d 68 10 [l0, l1, l2, l3, l4] [.int u2, .int u1, s0] H r ↔ Runs xs sl d 68 11 [l0, l1, l2, l3, l4] [.int (u1 * u2), s0] H r := q_imul (mo_68 10 rfl) rfl
theorem r68_11 : Runs xs sl d 68 11 [some (.ref a0), l1, l2, l3, l4] [s1, s0] H r ↔ Runs xs sl d 68 12 [some (.ref a0), l1, l2, l3, l4] [.ref a0, s1, s0] H r := q_aload_n (mo_68 11 rfl) rfl rfl
theorem r68_12 : Runs xs sl d 68 12 [l0, l1, l2, l3, l4] [.ref b2, s1, s0] H r ↔ ∃ v, hO H b2 3 4 = some v ∧ Runs xs sl d 68 15 [l0, l1, l2, l3, l4] [v, s1, s0] H r := q_getf (mo_68 12 rfl) mow_68 rfl rfl
theorem r68_15 : Runs xs sl d 68 15 [l0, l1, l2, l3, l4] [s2, s1, s0] H r ↔ Runs xs sl d 68 16 [l0, l1, l2, l3, l4] [.int 0, s2, s1, s0] H r := q_iconst (mo_68 15 rfl) rfl rfl
theorem r68_16 : Runs xs sl d 68 16 [l0, l1, l2, l3, l4] [s3, s2, s1, s0] H r ↔ Runs xs sl d 68 18 [l0, l1, l2, l3, l4] [.int 6, s3, s2, s1, s0] H r := q_bipush (mo_68 16 rfl) rfl rfl
theorem r68_18 : Runs xs sl (d + 1) 68 18 [l0, l1, l2, l3, l4] [.int u4, .int u3, .ref b2, .int u1, .ref b0] H r ↔ ∃ H1, hCp H b0 b2 u1 u3 u4 = some H1 ∧ Runs xs sl (d + 1) 68 21 [l0, l1, l2, l3, l4] [] H1 r := q_copy (mo_68 18 rfl) mow_68 rfl (Nat.le_of_ble_eq_true rfl) rfl
theorem r68_21 : Runs xs sl d 68 21 [l0, l1, l2, l3, l4] [] H r ↔ Runs xs sl d 68 22 [l0, l1, l2, l3, l4] [.int 0] H r := q_iconst (mo_68 21 rfl) rfl rfl
theorem r68_22 : Runs xs sl d 68 22 [l0, some (.int i1), l2, l3, l4] [.int u0] H r ↔ Runs xs sl d 68 23 [l0, some (.int i1), some (.int u0), l3, l4] [] H r := q_istore_n (mo_68 22 rfl) (Nat.le_of_ble_eq_true rfl) rfl rfl
theorem r68_23 : Runs xs sl d 68 23 [l0, l1, some (.int i2), l3, l4] [] H r ↔ Runs xs sl d 68 24 [l0, l1, some (.int i2), l3, l4] [.int i2] H r := q_iload_n (mo_68 23 rfl) rfl rfl
theorem r68_24 : Runs xs sl d 68 24 [some (.ref a0), l1, l2, l3, l4] [s0] H r ↔ Runs xs sl d 68 25 [some (.ref a0), l1, l2, l3, l4] [.ref a0, s0] H r := q_aload_n (mo_68 24 rfl) rfl rfl
theorem r68_25 : Runs xs sl d 68 25 [l0, l1, l2, l3, l4] [.ref b1, s0] H r ↔ ∃ v, hO H b1 3 3 = some v ∧ Runs xs sl d 68 28 [l0, l1, l2, l3, l4] [v, s0] H r := q_getf (mo_68 25 rfl) mow_68 rfl rfl
theorem r68_28 : Runs xs sl d 68 28 [l0, l1, l2, l3, l4] [.ref b1, s0] H r ↔ ∃ v, hO H b1 6 1 = some v ∧ Runs xs sl d 68 31 [l0, l1, l2, l3, l4] [v, s0] H r := q_getf (mo_68 28 rfl) mow_68 rfl rfl
theorem r68_31 : Runs xs sl d 68 31 [l0, l1, l2, l3, l4] [.int u1, .int u0] H r ↔ if u1 ≤ u0 then Runs xs sl d 68 131 [l0, l1, l2, l3, l4] [] H r else Runs xs sl d 68 34 [l0, l1, l2, l3, l4] [] H r := q_icmp_ge (mo_68 31 rfl) rfl rfl
theorem r68_34 : Runs xs sl d 68 34 [l0, l1, l2, l3, l4] [] H r ↔ Runs xs sl d 68 35 [l0, l1, l2, l3, l4] [.int 1] H r := q_iconst (mo_68 34 rfl) rfl rfl
theorem r68_35 : Runs xs sl d 68 35 [l0, l1, some (.int i2), l3, l4] [s0] H r ↔ Runs xs sl d 68 36 [l0, l1, some (.int i2), l3, l4] [.int i2, s0] H r := q_iload_n (mo_68 35 rfl) rfl rfl
theorem r68_36 : Runs xs sl d 68 36 [l0, l1, l2, l3, l4] [.int u1, .int u0] H r ↔ Runs xs sl d 68 37 [l0, l1, l2, l3, l4] [.int (u0 <<< (u1 &&& 31))] H r := q_ishl (mo_68 36 rfl) rfl
theorem r68_37 : Runs xs sl d 68 37 [l0, l1, some (.int i2), l3, l4] [.int u0] H r ↔ Runs xs sl d 68 38 [l0, l1, some (.int i2), some (.int u0), l4] [] H r := q_istore_n (mo_68 37 rfl) (Nat.le_of_ble_eq_true rfl) rfl rfl
theorem r68_38 : Runs xs sl d 68 38 [l0, l1, l2, some (.int i3), l4] [] H r ↔ Runs xs sl d 68 39 [l0, l1, l2, some (.int i3), l4] [.int i3] H r := q_iload_n (mo_68 38 rfl) rfl rfl
theorem r68_39 : Runs xs sl d 68 39 [l0, l1, l2, l3, l4] [s0] H r ↔ Runs xs sl d 68 40 [l0, l1, l2, l3, l4] [.int 2, s0] H r := q_iconst (mo_68 39 rfl) rfl rfl
theorem r68_40 : Runs xs sl d 68 40 [l0, l1, some (.int i2), l3, l4] [s1, s0] H r ↔ Runs xs sl d 68 41 [l0, l1, some (.int i2), l3, l4] [.int i2, s1, s0] H r := q_iload_n (mo_68 40 rfl) rfl rfl
theorem r68_41 : Runs xs sl d 68 41 [l0, l1, l2, l3, l4] [.int u2, .int u1, s0] H r ↔ Runs xs sl d 68 42 [l0, l1, l2, l3, l4] [.int (u1 <<< (u2 &&& 31)), s0] H r := q_ishl (mo_68 41 rfl) rfl
theorem r68_42 : Runs xs sl d 68 42 [l0, l1, l2, l3, l4] [.int u1, .int u0] H r ↔ if u1 ≤ u0 then Runs xs sl d 68 125 [l0, l1, l2, l3, l4] [] H r else Runs xs sl d 68 45 [l0, l1, l2, l3, l4] [] H r := q_icmp_ge (mo_68 42 rfl) rfl rfl
theorem r68_45 : Runs xs sl d 68 45 [l0, l1, l2, some (.int i3), l4] [] H r ↔ Runs xs sl d 68 46 [l0, l1, l2, some (.int i3), l4] [.int i3] H r := q_iload_n (mo_68 45 rfl) rfl rfl
theorem r68_46 : Runs xs sl d 68 46 [l0, l1, l2, l3, l4] [s0] H r ↔ Runs xs sl d 68 48 [l0, l1, l2, l3, l4] [.int 6, s0] H r := q_bipush (mo_68 46 rfl) rfl rfl
theorem r68_48 : Runs xs sl d 68 48 [l0, l1, l2, l3, l4] [.int u1, .int u0] H r ↔ Runs xs sl d 68 49 [l0, l1, l2, l3, l4] [.int (u0 * u1)] H r := q_imul (mo_68 48 rfl) rfl
theorem r68_49 : Runs xs sl d 68 49 [l0, l1, l2, some (.int i3), l4] [.int u0] H r ↔ Runs xs sl d 68 51 [l0, l1, l2, some (.int i3), some (.int u0)] [] H r := q_istore (mo_68 49 rfl) (Nat.le_of_ble_eq_true rfl) rfl rfl
theorem r68_51 : Runs xs sl d 68 51 [some (.ref a0), l1, l2, l3, l4] [] H r ↔ Runs xs sl d 68 52 [some (.ref a0), l1, l2, l3, l4] [.ref a0] H r := q_aload_n (mo_68 51 rfl) rfl rfl
theorem r68_52 : Runs xs sl d 68 52 [l0, l1, l2, l3, l4] [.ref b0] H r ↔ ∃ v, hO H b0 3 4 = some v ∧ Runs xs sl d 68 55 [l0, l1, l2, l3, l4] [v] H r := q_getf (mo_68 52 rfl) mow_68 rfl rfl
theorem r68_55 : Runs xs sl d 68 55 [l0, l1, l2, some (.int i3), l4] [s0] H r ↔ Runs xs sl d 68 56 [l0, l1, l2, some (.int i3), l4] [.int i3, s0] H r := q_iload_n (mo_68 55 rfl) rfl rfl
theorem r68_56 : Runs xs sl d 68 56 [l0, l1, l2, l3, l4] [s1, s0] H r ↔ Runs xs sl d 68 57 [l0, l1, l2, l3, l4] [.int 1, s1, s0] H r := q_iconst (mo_68 56 rfl) rfl rfl
theorem r68_57 : Runs xs sl d 68 57 [l0, l1, some (.int i2), l3, l4] [s2, s1, s0] H r ↔ Runs xs sl d 68 58 [l0, l1, some (.int i2), l3, l4] [.int i2, s2, s1, s0] H r := q_iload_n (mo_68 57 rfl) rfl rfl
theorem r68_58 : Runs xs sl d 68 58 [l0, l1, l2, l3, l4] [.int u3, .int u2, s1, s0] H r ↔ Runs xs sl d 68 59 [l0, l1, l2, l3, l4] [.int (u2 <<< (u3 &&& 31)), s1, s0] H r := q_ishl (mo_68 58 rfl) rfl
theorem r68_59 : Runs xs sl d 68 59 [l0, l1, l2, l3, l4] [.int u2, .int u1, s0] H r ↔ Runs xs sl d 68 60 [l0, l1, l2, l3, l4] [.int (u1 - u2), s0] H r := q_isub (mo_68 59 rfl) rfl
theorem r68_60 : Runs xs sl d 68 60 [l0, l1, l2, l3, l4] [s1, s0] H r ↔ Runs xs sl d 68 62 [l0, l1, l2, l3, l4] [.int 6, s1, s0] H r := q_bipush (mo_68 60 rfl) rfl rfl
theorem r68_62 : Runs xs sl d 68 62 [l0, l1, l2, l3, l4] [.int u2, .int u1, s0] H r ↔ Runs xs sl d 68 63 [l0, l1, l2, l3, l4] [.int (u1 * u2), s0] H r := q_imul (mo_68 62 rfl) rfl
theorem r68_63 : Runs xs sl d 68 63 [some (.ref a0), l1, l2, l3, l4] [s1, s0] H r ↔ Runs xs sl d 68 64 [some (.ref a0), l1, l2, l3, l4] [.ref a0, s1, s0] H r := q_aload_n (mo_68 63 rfl) rfl rfl
theorem r68_64 : Runs xs sl d 68 64 [l0, l1, l2, l3, l4] [.ref b2, s1, s0] H r ↔ ∃ v, hO H b2 3 4 = some v ∧ Runs xs sl d 68 67 [l0, l1, l2, l3, l4] [v, s1, s0] H r := q_getf (mo_68 64 rfl) mow_68 rfl rfl
theorem r68_67 : Runs xs sl d 68 67 [l0, l1, l2, l3, some (.int i4)] [s2, s1, s0] H r ↔ Runs xs sl d 68 69 [l0, l1, l2, l3, some (.int i4)] [.int i4, s2, s1, s0] H r := q_iload (mo_68 67 rfl) rfl rfl
theorem r68_69 : Runs xs sl d 68 69 [l0, l1, l2, l3, l4] [s3, s2, s1, s0] H r ↔ Runs xs sl d 68 71 [l0, l1, l2, l3, l4] [.int 6, s3, s2, s1, s0] H r := q_bipush (mo_68 69 rfl) rfl rfl
theorem r68_71 : Runs xs sl (d + 1) 68 71 [l0, l1, l2, l3, l4] [.int u4, .int u3, .ref b2, .int u1, .ref b0] H r ↔ ∃ H1, hCp H b0 b2 u1 u3 u4 = some H1 ∧ Runs xs sl (d + 1) 68 74 [l0, l1, l2, l3, l4] [] H1 r := q_copy (mo_68 71 rfl) mow_68 rfl (Nat.le_of_ble_eq_true rfl) rfl
theorem r68_74 : Runs xs sl d 68 74 [some (.ref a0), l1, l2, l3, l4] [] H r ↔ Runs xs sl d 68 75 [some (.ref a0), l1, l2, l3, l4] [.ref a0] H r := q_aload_n (mo_68 74 rfl) rfl rfl
theorem r68_75 : Runs xs sl d 68 75 [l0, l1, l2, l3, l4] [.ref b0] H r ↔ ∃ v, hO H b0 3 3 = some v ∧ Runs xs sl d 68 78 [l0, l1, l2, l3, l4] [v] H r := q_getf (mo_68 75 rfl) mow_68 rfl rfl
theorem r68_78 : Runs xs sl d 68 78 [some (.ref a0), l1, l2, l3, l4] [s0] H r ↔ Runs xs sl d 68 79 [some (.ref a0), l1, l2, l3, l4] [.ref a0, s0] H r := q_aload_n (mo_68 78 rfl) rfl rfl
theorem r68_79 : Runs xs sl d 68 79 [l0, l1, l2, l3, l4] [.ref b1, s0] H r ↔ ∃ v, hO H b1 3 4 = some v ∧ Runs xs sl d 68 82 [l0, l1, l2, l3, l4] [v, s0] H r := q_getf (mo_68 79 rfl) mow_68 rfl rfl
theorem r68_82 : Runs xs sl d 68 82 [l0, l1, l2, l3, some (.int i4)] [s1, s0] H r ↔ Runs xs sl d 68 84 [l0, l1, l2, l3, some (.int i4)] [.int i4, s1, s0] H r := q_iload (mo_68 82 rfl) rfl rfl
theorem r68_84 : Runs xs sl d 68 84 [l0, l1, some (.int i2), l3, l4] [s2, s1, s0] H r ↔ Runs xs sl d 68 85 [l0, l1, some (.int i2), l3, l4] [.int i2, s2, s1, s0] H r := q_iload_n (mo_68 84 rfl) rfl rfl
theorem r68_85 : Runs xs sl d 68 85 [some (.ref a0), l1, l2, l3, l4] [s3, s2, s1, s0] H r ↔ Runs xs sl d 68 86 [some (.ref a0), l1, l2, l3, l4] [.ref a0, s3, s2, s1, s0] H r := q_aload_n (mo_68 85 rfl) rfl rfl
theorem r68_86 : Runs xs sl d 68 86 [l0, l1, l2, l3, l4] [.ref b4, s3, s2, s1, s0] H r ↔ ∃ v, hO H b4 3 3 = some v ∧ Runs xs sl d 68 89 [l0, l1, l2, l3, l4] [v, s3, s2, s1, s0] H r := q_getf (mo_68 86 rfl) mow_68 rfl rfl
theorem r68_89 : Runs xs sl d 68 89 [l0, l1, l2, l3, l4] [.ref b4, s3, s2, s1, s0] H r ↔ ∃ v, hO H b4 6 0 = some v ∧ Runs xs sl d 68 92 [l0, l1, l2, l3, l4] [v, s3, s2, s1, s0] H r := q_getf (mo_68 89 rfl) mow_68 rfl rfl
theorem r68_92 : Runs xs sl d 68 92 [l0, l1, l2, l3, l4] [.ref b4, s3, s2, s1, s0] H r ↔ ∃ v, hO H b4 8 6 = some v ∧ Runs xs sl d 68 95 [l0, l1, l2, l3, l4] [v, s3, s2, s1, s0] H r := q_getf (mo_68 92 rfl) mow_68 rfl rfl
theorem r68_95 : Runs xs sl d 68 95 [l0, some (.int i1), l2, l3, l4] [s4, s3, s2, s1, s0] H r ↔ Runs xs sl d 68 96 [l0, some (.int i1), l2, l3, l4] [.int i1, s4, s3, s2, s1, s0] H r := q_iload_n (mo_68 95 rfl) rfl rfl
theorem r68_96 : Runs xs sl d 68 96 [l0, l1, l2, l3, l4] [.int u5, .ref b4, s3, s2, s1, s0] H r ↔ ∃ v, hA H b4 0 u5 = some v ∧ Runs xs sl d 68 97 [l0, l1, l2, l3, l4] [.int v, s3, s2, s1, s0] H r := run_iald (mo_68 96 rfl) rfl
theorem r68_97 (hc : hC H b0 = some 6) : Runs xs sl (d + 1) 68 97 [l0, l1, l2, l3, l4] [.int u4, .int u3, .int u2, .ref b1, .ref b0] H r ↔ ∃ v H1, Runs xs sl d 125 0 [some (.ref b0), some (.ref b1), some (.int u2), some (.int u3), some (.int u4), none, none, none, none] [] H (v, H1) ∧ Runs xs sl (d + 1) 68 100 [l0, l1, l2, l3, l4] (v.toList ++ []) H1 r := q_callV (M' := 125) (as := [.ref b1, .int u2, .int u3, .int u4]) (rest := []) (mo_68 97 rfl) mow_68 rfl mcs_125 mmx_125 rfl (Nat.le_of_ble_eq_true rfl) (Nat.le_of_ble_eq_true rfl) rfl rfl hc
theorem r68_100 : Runs xs sl d 68 100 [l0, l1, l2, l3, l4] [.int u0] H r ↔ if u0 = 0 then Runs xs sl d 68 119 [l0, l1, l2, l3, l4] [] H r else Runs xs sl d 68 103 [l0, l1, l2, l3, l4] [] H r := q_if_eq (mo_68 100 rfl) rfl rfl
theorem r68_103 : Runs xs sl d 68 103 [some (.ref a0), l1, l2, l3, l4] [] H r ↔ Runs xs sl d 68 104 [some (.ref a0), l1, l2, l3, l4] [.ref a0] H r := q_aload_n (mo_68 103 rfl) rfl rfl
theorem r68_104 : Runs xs sl d 68 104 [l0, l1, l2, l3, l4] [.ref b0] H r ↔ ∃ v, hO H b0 3 3 = some v ∧ Runs xs sl d 68 107 [l0, l1, l2, l3, l4] [v] H r := q_getf (mo_68 104 rfl) mow_68 rfl rfl
theorem r68_107 : Runs xs sl d 68 107 [some (.ref a0), l1, l2, l3, l4] [s0] H r ↔ Runs xs sl d 68 108 [some (.ref a0), l1, l2, l3, l4] [.ref a0, s0] H r := q_aload_n (mo_68 107 rfl) rfl rfl
theorem r68_108 : Runs xs sl d 68 108 [l0, l1, l2, l3, l4] [.ref b1, s0] H r ↔ ∃ v, hO H b1 3 4 = some v ∧ Runs xs sl d 68 111 [l0, l1, l2, l3, l4] [v, s0] H r := q_getf (mo_68 108 rfl) mow_68 rfl rfl
theorem r68_111 : Runs xs sl d 68 111 [l0, l1, l2, l3, some (.int i4)] [s1, s0] H r ↔ Runs xs sl d 68 113 [l0, l1, l2, l3, some (.int i4)] [.int i4, s1, s0] H r := q_iload (mo_68 111 rfl) rfl rfl
theorem r68_113 : Runs xs sl d 68 113 [l0, l1, some (.int i2), l3, l4] [s2, s1, s0] H r ↔ Runs xs sl d 68 114 [l0, l1, some (.int i2), l3, l4] [.int i2, s2, s1, s0] H r := q_iload_n (mo_68 113 rfl) rfl rfl
theorem r68_114 : Runs xs sl d 68 114 [l0, l1, l2, l3, l4] [s3, s2, s1, s0] H r ↔ Runs xs sl d 68 115 [l0, l1, l2, l3, l4] [.int 1, s3, s2, s1, s0] H r := q_iconst (mo_68 114 rfl) rfl rfl
theorem r68_115 (hc : hC H b0 = some 6) : Runs xs sl (d + 1) 68 115 [l0, l1, l2, l3, l4] [.int u4, .int u3, .int u2, .ref b1, .ref b0] H r ↔ ∃ v H1, Runs xs sl d 126 0 [some (.ref b0), some (.ref b1), some (.int u2), some (.int u3), some (.int u4), none, none, none, none] [] H (v, H1) ∧ Runs xs sl (d + 1) 68 118 [l0, l1, l2, l3, l4] (v.toList ++ []) H1 r := q_callV (M' := 126) (as := [.ref b1, .int u2, .int u3, .int u4]) (rest := []) (mo_68 115 rfl) mow_68 rfl mcs_126 mmx_126 rfl (Nat.le_of_ble_eq_true rfl) (Nat.le_of_ble_eq_true rfl) rfl rfl hc
theorem r68_118 : Runs xs sl d 68 118 [l0, l1, l2, l3, l4] [.int u0] H r ↔ Runs xs sl d 68 119 [l0, l1, l2, l3, l4] [] H r := q_pop (mo_68 118 rfl) rfl rfl
theorem r68_119 : Runs xs sl d 68 119 [l0, l1, some (.int i2), some (.int i3), l4] [] H r ↔ Runs xs sl d 68 122 [l0, l1, some (.int i2), some (.int (i3 + 1)), l4] [] H r := q_iinc (mo_68 119 rfl) rfl (Nat.le_of_ble_eq_true rfl) rfl rfl
theorem r68_122 : Runs xs sl d 68 122 [l0, l1, l2, l3, l4] [] H r ↔ Runs xs sl d 68 38 [l0, l1, l2, l3, l4] [] H r := q_goto (mo_68 122 rfl) rfl
theorem r68_125 : Runs xs sl d 68 125 [l0, some (.int i1), some (.int i2), l3, l4] [] H r ↔ Runs xs sl d 68 128 [l0, some (.int i1), some (.int (i2 + 1)), l3, l4] [] H r := q_iinc (mo_68 125 rfl) rfl (Nat.le_of_ble_eq_true rfl) rfl rfl
theorem r68_128 : Runs xs sl d 68 128 [l0, l1, l2, l3, l4] [] H r ↔ Runs xs sl d 68 23 [l0, l1, l2, l3, l4] [] H r := q_goto (mo_68 128 rfl) rfl
theorem r68_131 : Runs xs sl d 68 131 [l0, l1, l2, l3, l4] [] H r ↔ r = (none, H) := q_ret (mo_68 131 rfl) mrt_68
theorem r69_0 : Runs xs sl d 69 0 [l0, l1, l2, l3, l4, l5] [] H r ↔ Runs xs sl d 69 1 [l0, l1, l2, l3, l4, l5] [.int 1] H r := q_iconst (mo_69 0 rfl) rfl rfl
theorem r69_1 : Runs xs sl d 69 1 [some (.ref a0), l1, l2, l3, l4, l5] [s0] H r ↔ Runs xs sl d 69 2 [some (.ref a0), l1, l2, l3, l4, l5] [.ref a0, s0] H r := q_aload_n (mo_69 1 rfl) rfl rfl
theorem r69_2 : Runs xs sl d 69 2 [l0, l1, l2, l3, l4, l5] [.ref b1, s0] H r ↔ ∃ v, hO H b1 3 3 = some v ∧ Runs xs sl d 69 5 [l0, l1, l2, l3, l4, l5] [v, s0] H r := q_getf (mo_69 2 rfl) mow_69 rfl rfl
theorem r69_5 : Runs xs sl d 69 5 [l0, l1, l2, l3, l4, l5] [.ref b1, s0] H r ↔ ∃ v, hO H b1 6 1 = some v ∧ Runs xs sl d 69 8 [l0, l1, l2, l3, l4, l5] [v, s0] H r := q_getf (mo_69 5 rfl) mow_69 rfl rfl
theorem r69_8 : Runs xs sl d 69 8 [l0, l1, l2, l3, l4, l5] [.int u1, .int u0] H r ↔ Runs xs sl d 69 9 [l0, l1, l2, l3, l4, l5] [.int (u0 <<< (u1 &&& 31))] H r := q_ishl (mo_69 8 rfl) rfl
theorem r69_9 : Runs xs sl d 69 9 [l0, l1, l2, l3, l4, l5] [s0] H r ↔ Runs xs sl d 69 10 [l0, l1, l2, l3, l4, l5] [.int 1, s0] H r := q_iconst (mo_69 9 rfl) rfl rfl
theorem r69_10 : Runs xs sl d 69 10 [l0, l1, l2, l3, l4, l5] [.int u1, .int u0] H r ↔ Runs xs sl d 69 11 [l0, l1, l2, l3, l4, l5] [.int (u0 - u1)] H r := q_isub (mo_69 10 rfl) rfl
theorem r69_11 : Runs xs sl d 69 11 [l0, some (.int i1), l2, l3, l4, l5] [.int u0] H r ↔ Runs xs sl d 69 12 [l0, some (.int i1), some (.int u0), l3, l4, l5] [] H r := q_istore_n (mo_69 11 rfl) (Nat.le_of_ble_eq_true rfl) rfl rfl
theorem r69_12 : Runs xs sl d 69 12 [l0, l1, some (.int i2), l3, l4, l5] [] H r ↔ Runs xs sl d 69 13 [l0, l1, some (.int i2), l3, l4, l5] [.int i2] H r := q_iload_n (mo_69 12 rfl) rfl rfl
theorem r69_13 : Runs xs sl d 69 13 [l0, l1, l2, l3, l4, l5] [.int u0] H r ↔ if u0 < 0 then Runs xs sl d 69 99 [l0, l1, l2, l3, l4, l5] [] H r else Runs xs sl d 69 16 [l0, l1, l2, l3, l4, l5] [] H r := q_if_lt (mo_69 13 rfl) rfl rfl
theorem r69_16 : Runs xs sl d 69 16 [l0, l1, l2, l3, l4, l5] [] H r ↔ Runs xs sl d 69 18 [l0, l1, l2, l3, l4, l5] [.int (-100000)] H r := q_ldc (mo_69 16 rfl) mow_69 rfl rfl
theorem r69_18 : Runs xs sl d 69 18 [l0, l1, some (.int i2), l3, l4, l5] [.int u0] H r ↔ Runs xs sl d 69 19 [l0, l1, some (.int i2), some (.int u0), l4, l5] [] H r := q_istore_n (mo_69 18 rfl) (Nat.le_of_ble_eq_true rfl) rfl rfl
theorem r69_19 : Runs xs sl d 69 19 [l0, l1, some (.int i2), l3, l4, l5] [] H r ↔ Runs xs sl d 69 20 [l0, l1, some (.int i2), l3, l4, l5] [.int i2] H r := q_iload_n (mo_69 19 rfl) rfl rfl
theorem r69_20 : Runs xs sl d 69 20 [l0, l1, l2, some (.int i3), l4, l5] [.int u0] H r ↔ Runs xs sl d 69 22 [l0, l1, l2, some (.int i3), some (.int u0), l5] [] H r := q_istore (mo_69 20 rfl) (Nat.le_of_ble_eq_true rfl) rfl rfl
theorem r69_22 : Runs xs sl d 69 22 [l0, l1, l2, l3, some (.int i4), l5] [] H r ↔ Runs xs sl d 69 24 [l0, l1, l2, l3, some (.int i4), l5] [.int i4] H r := q_iload (mo_69 22 rfl) rfl rfl
theorem r69_24 : Runs xs sl d 69 24 [l0, l1, l2, l3, l4, l5] [.int u0] H r ↔ if u0 < 0 then Runs xs sl d 69 86 [l0, l1, l2, l3, l4, l5] [] H r else Runs xs sl d 69 27 [l0, l1, l2, l3, l4, l5] [] H r := q_if_lt (mo_69 24 rfl) rfl rfl
theorem r69_27 : Runs xs sl d 69 27 [some (.ref a0), l1, l2, l3, l4, l5] [] H r ↔ Runs xs sl d 69 28 [some (.ref a0), l1, l2, l3, l4, l5] [.ref a0] H r := q_aload_n (mo_69 27 rfl) rfl rfl
theorem r69_28 : Runs xs sl d 69 28 [l0, l1, l2, l3, l4, l5] [.ref b0] H r ↔ ∃ v, hO H b0 3 4 = some v ∧ Runs xs sl d 69 31 [l0, l1, l2, l3, l4, l5] [v] H r := q_getf (mo_69 28 rfl) mow_69 rfl rfl
theorem r69_31 : Runs xs sl d 69 31 [l0, l1, l2, l3, some (.int i4), l5] [s0] H r ↔ Runs xs sl d 69 33 [l0, l1, l2, l3, some (.int i4), l5] [.int i4, s0] H r := q_iload (mo_69 31 rfl) rfl rfl
theorem r69_33 : Runs xs sl d 69 33 [l0, l1, l2, l3, l4, l5] [s1, s0] H r ↔ Runs xs sl d 69 35 [l0, l1, l2, l3, l4, l5] [.int 6, s1, s0] H r := q_bipush (mo_69 33 rfl) rfl rfl
theorem r69_35 : Runs xs sl d 69 35 [l0, l1, l2, l3, l4, l5] [.int u2, .int u1, s0] H r ↔ Runs xs sl d 69 36 [l0, l1, l2, l3, l4, l5] [.int (u1 * u2), s0] H r := q_imul (mo_69 35 rfl) rfl
theorem r69_36 : Runs xs sl d 69 36 [some (.ref a0), l1, l2, l3, l4, l5] [s1, s0] H r ↔ Runs xs sl d 69 37 [some (.ref a0), l1, l2, l3, l4, l5] [.ref a0, s1, s0] H r := q_aload_n (mo_69 36 rfl) rfl rfl
theorem r69_37 : Runs xs sl d 69 37 [l0, l1, l2, l3, l4, l5] [.ref b2, s1, s0] H r ↔ ∃ v, hO H b2 3 8 = some v ∧ Runs xs sl d 69 40 [l0, l1, l2, l3, l4, l5] [v, s1, s0] H r := q_getf (mo_69 37 rfl) mow_69 rfl rfl
theorem r69_40 : Runs xs sl d 69 40 [l0, l1, l2, l3, l4, l5] [.int u2, .int u1, s0] H r ↔ Runs xs sl d 69 41 [l0, l1, l2, l3, l4, l5] [.int (u1 + u2), s0] H r := q_iadd (mo_69 40 rfl) rfl
theorem r69_41 : Runs xs sl d 69 41 [l0, l1, l2, l3, l4, l5] [.int u1, .ref b0] H r ↔ ∃ v, hA H b0 0 u1 = some v ∧ Runs xs sl d 69 42 [l0, l1, l2, l3, l4, l5] [.int v] H r := run_iald (mo_69 41 rfl) rfl
theorem r69_42 : Runs xs sl (d + 1) 69 42 [l0, l1, l2, l3, l4, l5] [.int u0] H r ↔ ∃ v H1, Runs xs sl d 286 0 [some (.int u0)] [] H (v, H1) ∧ Runs xs sl (d + 1) 69 45 [l0, l1, l2, l3, l4, l5] (v.toList ++ []) H1 r := q_callS (M' := 286) (as := [.int u0]) (rest := []) (mo_69 42 rfl) mow_69 rfl mmx_286 rfl (Nat.le_of_ble_eq_true rfl) (Nat.le_of_ble_eq_true rfl) rfl rfl
theorem r69_45 : Runs xs sl d 69 45 [l0, l1, l2, l3, some (.int i4), l5] [.int u0] H r ↔ Runs xs sl d 69 47 [l0, l1, l2, l3, some (.int i4), some (.int u0)] [] H r := q_istore (mo_69 45 rfl) (Nat.le_of_ble_eq_true rfl) rfl rfl
theorem r69_47 : Runs xs sl d 69 47 [l0, l1, l2, some (.int i3), l4, l5] [] H r ↔ Runs xs sl d 69 48 [l0, l1, l2, some (.int i3), l4, l5] [.int i3] H r := q_iload_n (mo_69 47 rfl) rfl rfl
theorem r69_48 : Runs xs sl d 69 48 [some (.ref a0), l1, l2, l3, l4, l5] [s0] H r ↔ Runs xs sl d 69 49 [some (.ref a0), l1, l2, l3, l4, l5] [.ref a0, s0] H r := q_aload_n (mo_69 48 rfl) rfl rfl
theorem r69_49 : Runs xs sl d 69 49 [l0, l1, l2, l3, l4, l5] [.ref b1, s0] H r ↔ ∃ v, hO H b1 3 5 = some v ∧ Runs xs sl d 69 52 [l0, l1, l2, l3, l4, l5] [v, s0] H r := q_getf (mo_69 49 rfl) mow_69 rfl rfl
theorem r69_52 : Runs xs sl d 69 52 [l0, l1, some (.int i2), l3, l4, l5] [s1, s0] H r ↔ Runs xs sl d 69 53 [l0, l1, some (.int i2), l3, l4, l5] [.int i2, s1, s0] H r := q_iload_n (mo_69 52 rfl) rfl rfl
theorem r69_53 : Runs xs sl d 69 53 [l0, l1, l2, l3, some (.int i4), l5] [s2, s1, s0] H r ↔ Runs xs sl d 69 55 [l0, l1, l2, l3, some (.int i4), l5] [.int i4, s2, s1, s0] H r := q_iload (mo_69 53 rfl) rfl rfl
theorem r69_55 : Runs xs sl d 69 55 [l0, l1, l2, l3, l4, l5] [.int u3, .int u2, s1, s0] H r ↔ Runs xs sl d 69 56 [l0, l1, l2, l3, l4, l5] [.int (u2 - u3), s1, s0] H r := q_isub (mo_69 55 rfl) rfl
theorem r69_56 : Runs xs sl d 69 56 [l0, l1, l2, l3, l4, l5] [.int u2, .ref b1, s0] H r ↔ ∃ v, hA H b1 0 u2 = some v ∧ Runs xs sl d 69 57 [l0, l1, l2, l3, l4, l5] [.int v, s0] H r := run_iald (mo_69 56 rfl) rfl
theorem r69_57 : Runs xs sl d 69 57 [l0, some (.int i1), l2, l3, l4, l5] [s1, s0] H r ↔ Runs xs sl d 69 58 [l0, some (.int i1), l2, l3, l4, l5] [.int i1, s1, s0] H r := q_iload_n (mo_69 57 rfl) rfl rfl
theorem r69_58 : Runs xs sl d 69 58 [l0, l1, l2, l3, l4, some (.int i5)] [s2, s1, s0] H r ↔ Runs xs sl d 69 60 [l0, l1, l2, l3, l4, some (.int i5)] [.int i5, s2, s1, s0] H r := q_iload (mo_69 58 rfl) rfl rfl
theorem r69_60 : Runs xs sl d 69 60 [l0, l1, l2, l3, l4, l5] [.int u3, .int u2, s1, s0] H r ↔ Runs xs sl d 69 61 [l0, l1, l2, l3, l4, l5] [.int (u2 * u3), s1, s0] H r := q_imul (mo_69 60 rfl) rfl
theorem r69_61 : Runs xs sl d 69 61 [l0, l1, l2, l3, l4, l5] [.int u2, .int u1, s0] H r ↔ Runs xs sl d 69 62 [l0, l1, l2, l3, l4, l5] [.int (u1 + u2), s0] H r := q_iadd (mo_69 61 rfl) rfl
theorem r69_62 : Runs xs sl (d + 1) 69 62 [l0, l1, l2, l3, l4, l5] [.int u1, .int u0] H r ↔ Runs xs sl (d + 1) 69 65 [l0, l1, l2, l3, l4, l5] [.int (if u0 < u1 then u1 else u0)] H r := q_mmax (mo_69 62 rfl) mow_69 rfl (Nat.le_of_ble_eq_true rfl) rfl
theorem r69_65 : Runs xs sl d 69 65 [l0, l1, some (.int i2), l3, l4, l5] [.int u0] H r ↔ Runs xs sl d 69 66 [l0, l1, some (.int i2), some (.int u0), l4, l5] [] H r := q_istore_n (mo_69 65 rfl) (Nat.le_of_ble_eq_true rfl) rfl rfl
theorem r69_66 : Runs xs sl d 69 66 [l0, l1, l2, l3, some (.int i4), l5] [] H r ↔ Runs xs sl d 69 68 [l0, l1, l2, l3, some (.int i4), l5] [.int i4] H r := q_iload (mo_69 66 rfl) rfl rfl
theorem r69_68 : Runs xs sl d 69 68 [l0, l1, l2, l3, l4, l5] [.int u0] H r ↔ if ¬ u0 = 0 then Runs xs sl d 69 75 [l0, l1, l2, l3, l4, l5] [] H r else Runs xs sl d 69 71 [l0, l1, l2, l3, l4, l5] [] H r := q_if_ne (mo_69 68 rfl) rfl rfl
theorem r69_71 : Runs xs sl d 69 71 [l0, l1, l2, l3, l4, l5] [] H r ↔ Runs xs sl d 69 72 [l0, l1, l2, l3, l4, l5] [.int (-1)] H r := q_iconst (mo_69 71 rfl) rfl rfl
theorem r69_72 : Runs xs sl d 69 72 [l0, l1, l2, l3, l4, l5] [s0] H r ↔ Runs xs sl d 69 81 [l0, l1, l2, l3, l4, l5] [s0] H r := q_goto (mo_69 72 rfl) rfl
theorem r69_75 : Runs xs sl d 69 75 [l0, l1, l2, l3, some (.int i4), l5] [] H r ↔ Runs xs sl d 69 77 [l0, l1, l2, l3, some (.int i4), l5] [.int i4] H r := q_iload (mo_69 75 rfl) rfl rfl
theorem r69_77 : Runs xs sl d 69 77 [l0, l1, l2, l3, l4, l5] [s0] H r ↔ Runs xs sl d 69 78 [l0, l1, l2, l3, l4, l5] [.int 1, s0] H r := q_iconst (mo_69 77 rfl) rfl rfl
theorem r69_78 : Runs xs sl d 69 78 [l0, l1, l2, l3, l4, l5] [.int u1, .int u0] H r ↔ Runs xs sl d 69 79 [l0, l1, l2, l3, l4, l5] [.int (u0 - u1)] H r := q_isub (mo_69 78 rfl) rfl
theorem r69_79 : Runs xs sl d 69 79 [l0, l1, some (.int i2), l3, l4, l5] [s0] H r ↔ Runs xs sl d 69 80 [l0, l1, some (.int i2), l3, l4, l5] [.int i2, s0] H r := q_iload_n (mo_69 79 rfl) rfl rfl
theorem r69_80 : Runs xs sl d 69 80 [l0, l1, l2, l3, l4, l5] [.int u1, .int u0] H r ↔ Runs xs sl d 69 81 [l0, l1, l2, l3, l4, l5] [.int (u0 &&& u1)] H r := q_iand (mo_69 80 rfl) rfl
theorem r69_81 : Runs xs sl d 69 81 [l0, l1, l2, some (.int i3), l4, l5] [.int u0] H r ↔ Runs xs sl d 69 83 [l0, l1, l2, some (.int i3), some (.int u0), l5] [] H r := q_istore (mo_69 81 rfl) (Nat.le_of_ble_eq_true rfl) rfl rfl
theorem r69_83 : Runs xs sl d 69 83 [l0, l1, l2, l3, l4, l5] [] H r ↔ Runs xs sl d 69 22 [l0, l1, l2, l3, l4, l5] [] H r := q_goto (mo_69 83 rfl) rfl
theorem r69_86 : Runs xs sl d 69 86 [some (.ref a0), l1, l2, l3, l4, l5] [] H r ↔ Runs xs sl d 69 87 [some (.ref a0), l1, l2, l3, l4, l5] [.ref a0] H r := q_aload_n (mo_69 86 rfl) rfl rfl
theorem r69_87 : Runs xs sl d 69 87 [l0, l1, l2, l3, l4, l5] [.ref b0] H r ↔ ∃ v, hO H b0 3 5 = some v ∧ Runs xs sl d 69 90 [l0, l1, l2, l3, l4, l5] [v] H r := q_getf (mo_69 87 rfl) mow_69 rfl rfl
theorem r69_90 : Runs xs sl d 69 90 [l0, l1, some (.int i2), l3, l4, l5] [s0] H r ↔ Runs xs sl d 69 91 [l0, l1, some (.int i2), l3, l4, l5] [.int i2, s0] H r := q_iload_n (mo_69 90 rfl) rfl rfl
theorem r69_91 : Runs xs sl d 69 91 [l0, l1, l2, some (.int i3), l4, l5] [s1, s0] H r ↔ Runs xs sl d 69 92 [l0, l1, l2, some (.int i3), l4, l5] [.int i3, s1, s0] H r := q_iload_n (mo_69 91 rfl) rfl rfl
theorem r69_92 : Runs xs sl d 69 92 [l0, l1, l2, l3, l4, l5] [.int u2, .int u1, .ref b0] H r ↔ ∃ H1, hAw H b0 0 u1 u2 = some H1 ∧ Runs xs sl d 69 93 [l0, l1, l2, l3, l4, l5] [] H1 r := run_iast (mo_69 92 rfl) rfl
theorem r69_93 : Runs xs sl d 69 93 [l0, some (.int i1), some (.int i2), l3, l4, l5] [] H r ↔ Runs xs sl d 69 96 [l0, some (.int i1), some (.int (i2 + (-1))), l3, l4, l5] [] H r := q_iinc (mo_69 93 rfl) rfl (Nat.le_of_ble_eq_true rfl) rfl rfl
theorem r69_96 : Runs xs sl d 69 96 [l0, l1, l2, l3, l4, l5] [] H r ↔ Runs xs sl d 69 12 [l0, l1, l2, l3, l4, l5] [] H r := q_goto (mo_69 96 rfl) rfl
theorem r69_99 : Runs xs sl d 69 99 [l0, l1, l2, l3, l4, l5] [] H r ↔ r = (none, H) := q_ret (mo_69 99 rfl) mrt_69
theorem r70_0 : Runs xs sl d 70 0 [l0, l1, l2] [] H r ↔ Runs xs sl d 70 2 [l0, l1, l2] [.int (-100000)] H r := q_ldc (mo_70 0 rfl) mow_70 rfl rfl
theorem r70_2 : Runs xs sl d 70 2 [some (.ref a0), l1, l2] [.int u0] H r ↔ Runs xs sl d 70 3 [some (.ref a0), some (.int u0), l2] [] H r := q_istore_n (mo_70 2 rfl) (Nat.le_of_ble_eq_true rfl) rfl rfl
theorem r70_2_1 : Runs xs sl d 70 2 [some .null, l1, l2] [.int u0] H r ↔ Runs xs sl d 70 3 [some .null, some (.int u0), l2] [] H r := q_istore_n (mo_70 2 rfl) (Nat.le_of_ble_eq_true rfl) rfl rfl
theorem r70_3 : Runs xs sl d 70 3 [l0, l1, l2] [] H r ↔ Runs xs sl d 70 4 [l0, l1, l2] [.int 0] H r := q_iconst (mo_70 3 rfl) rfl rfl
theorem r70_4 : Runs xs sl d 70 4 [l0, some (.int i1), l2] [.int u0] H r ↔ Runs xs sl d 70 5 [l0, some (.int i1), some (.int u0)] [] H r := q_istore_n (mo_70 4 rfl) (Nat.le_of_ble_eq_true rfl) rfl rfl
theorem r70_5 : Runs xs sl d 70 5 [l0, l1, some (.int i2)] [] H r ↔ Runs xs sl d 70 6 [l0, l1, some (.int i2)] [.int i2] H r := q_iload_n (mo_70 5 rfl) rfl rfl
theorem r70_6 : Runs xs sl d 70 6 [l0, l1, l2] [s0] H r ↔ Runs xs sl d 70 7 [l0, l1, l2] [.int 1, s0] H r := q_iconst (mo_70 6 rfl) rfl rfl
theorem r70_7 : Runs xs sl d 70 7 [some (.ref a0), l1, l2] [s1, s0] H r ↔ Runs xs sl d 70 8 [some (.ref a0), l1, l2] [.ref a0, s1, s0] H r := q_aload_n (mo_70 7 rfl) rfl rfl
theorem r70_8 : Runs xs sl d 70 8 [l0, l1, l2] [.ref b2, s1, s0] H r ↔ ∃ v, hO H b2 3 3 = some v ∧ Runs xs sl d 70 11 [l0, l1, l2] [v, s1, s0] H r := q_getf (mo_70 8 rfl) mow_70 rfl rfl
theorem r70_11 : Runs xs sl d 70 11 [l0, l1, l2] [.ref b2, s1, s0] H r ↔ ∃ v, hO H b2 6 1 = some v ∧ Runs xs sl d 70 14 [l0, l1, l2] [v, s1, s0] H r := q_getf (mo_70 11 rfl) mow_70 rfl rfl
theorem r70_14 : Runs xs sl d 70 14 [l0, l1, l2] [.int u2, .int u1, s0] H r ↔ Runs xs sl d 70 15 [l0, l1, l2] [.int (u1 <<< (u2 &&& 31)), s0] H r := q_ishl (mo_70 14 rfl) rfl
theorem r70_15 : Runs xs sl d 70 15 [l0, l1, l2] [.int u1, .int u0] H r ↔ if u1 ≤ u0 then Runs xs sl d 70 35 [l0, l1, l2] [] H r else Runs xs sl d 70 18 [l0, l1, l2] [] H r := q_icmp_ge (mo_70 15 rfl) rfl rfl
theorem r70_18 : Runs xs sl d 70 18 [l0, some (.int i1), l2] [] H r ↔ Runs xs sl d 70 19 [l0, some (.int i1), l2] [.int i1] H r := q_iload_n (mo_70 18 rfl) rfl rfl
theorem r70_19 : Runs xs sl d 70 19 [some (.ref a0), l1, l2] [s0] H r ↔ Runs xs sl d 70 20 [some (.ref a0), l1, l2] [.ref a0, s0] H r := q_aload_n (mo_70 19 rfl) rfl rfl
theorem r70_20 : Runs xs sl d 70 20 [l0, l1, l2] [.ref b1, s0] H r ↔ ∃ v, hO H b1 3 5 = some v ∧ Runs xs sl d 70 23 [l0, l1, l2] [v, s0] H r := q_getf (mo_70 20 rfl) mow_70 rfl rfl
theorem r70_23 : Runs xs sl d 70 23 [l0, l1, some (.int i2)] [s1, s0] H r ↔ Runs xs sl d 70 24 [l0, l1, some (.int i2)] [.int i2, s1, s0] H r := q_iload_n (mo_70 23 rfl) rfl rfl
theorem r70_24 : Runs xs sl d 70 24 [l0, l1, l2] [.int u2, .ref b1, s0] H r ↔ ∃ v, hA H b1 0 u2 = some v ∧ Runs xs sl d 70 25 [l0, l1, l2] [.int v, s0] H r := run_iald (mo_70 24 rfl) rfl
theorem r70_25 : Runs xs sl (d + 1) 70 25 [l0, l1, l2] [.int u1, .int u0] H r ↔ Runs xs sl (d + 1) 70 28 [l0, l1, l2] [.int (if u0 < u1 then u1 else u0)] H r := q_mmax (mo_70 25 rfl) mow_70 rfl (Nat.le_of_ble_eq_true rfl) rfl
theorem r70_28 : Runs xs sl d 70 28 [some (.ref a0), l1, l2] [.int u0] H r ↔ Runs xs sl d 70 29 [some (.ref a0), some (.int u0), l2] [] H r := q_istore_n (mo_70 28 rfl) (Nat.le_of_ble_eq_true rfl) rfl rfl
theorem r70_28_1 : Runs xs sl d 70 28 [some .null, l1, l2] [.int u0] H r ↔ Runs xs sl d 70 29 [some .null, some (.int u0), l2] [] H r := q_istore_n (mo_70 28 rfl) (Nat.le_of_ble_eq_true rfl) rfl rfl
theorem r70_29 : Runs xs sl d 70 29 [l0, some (.int i1), some (.int i2)] [] H r ↔ Runs xs sl d 70 32 [l0, some (.int i1), some (.int (i2 + 1))] [] H r := q_iinc (mo_70 29 rfl) rfl (Nat.le_of_ble_eq_true rfl) rfl rfl
theorem r70_32 : Runs xs sl d 70 32 [l0, l1, l2] [] H r ↔ Runs xs sl d 70 5 [l0, l1, l2] [] H r := q_goto (mo_70 32 rfl) rfl
theorem r70_35 : Runs xs sl d 70 35 [l0, some (.int i1), l2] [] H r ↔ Runs xs sl d 70 36 [l0, some (.int i1), l2] [.int i1] H r := q_iload_n (mo_70 35 rfl) rfl rfl
theorem r70_36 : Runs xs sl d 70 36 [l0, l1, l2] [.int u0] H r ↔ r = (some (.int u0), H) := q_iret (mo_70 36 rfl) mrt_70
theorem r71_0 : Runs xs sl d 71 0 [l0, l1, l2, l3] [] H r ↔ Runs xs sl d 71 1 [l0, l1, l2, l3] [.int (-1)] H r := q_iconst (mo_71 0 rfl) rfl rfl
theorem r71_1 : Runs xs sl d 71 1 [some (.ref a0), l1, l2, l3] [.int u0] H r ↔ Runs xs sl d 71 2 [some (.ref a0), some (.int u0), l2, l3] [] H r := q_istore_n (mo_71 1 rfl) (Nat.le_of_ble_eq_true rfl) rfl rfl
theorem r71_1_1 : Runs xs sl d 71 1 [some .null, l1, l2, l3] [.int u0] H r ↔ Runs xs sl d 71 2 [some .null, some (.int u0), l2, l3] [] H r := q_istore_n (mo_71 1 rfl) (Nat.le_of_ble_eq_true rfl) rfl rfl
theorem r71_2 : Runs xs sl d 71 2 [l0, l1, l2, l3] [] H r ↔ Runs xs sl d 71 3 [l0, l1, l2, l3] [.int 0] H r := q_iconst (mo_71 2 rfl) rfl rfl
theorem r71_3 : Runs xs sl d 71 3 [l0, some (.int i1), l2, l3] [.int u0] H r ↔ Runs xs sl d 71 4 [l0, some (.int i1), some (.int u0), l3] [] H r := q_istore_n (mo_71 3 rfl) (Nat.le_of_ble_eq_true rfl) rfl rfl
theorem r71_4 : Runs xs sl d 71 4 [l0, l1, some (.int i2), l3] [] H r ↔ Runs xs sl d 71 5 [l0, l1, some (.int i2), l3] [.int i2] H r := q_iload_n (mo_71 4 rfl) rfl rfl
theorem r71_5 : Runs xs sl d 71 5 [l0, l1, l2, l3] [s0] H r ↔ Runs xs sl d 71 6 [l0, l1, l2, l3] [.int 1, s0] H r := q_iconst (mo_71 5 rfl) rfl rfl
theorem r71_6 : Runs xs sl d 71 6 [some (.ref a0), l1, l2, l3] [s1, s0] H r ↔ Runs xs sl d 71 7 [some (.ref a0), l1, l2, l3] [.ref a0, s1, s0] H r := q_aload_n (mo_71 6 rfl) rfl rfl
theorem r71_7 : Runs xs sl d 71 7 [l0, l1, l2, l3] [.ref b2, s1, s0] H r ↔ ∃ v, hO H b2 3 3 = some v ∧ Runs xs sl d 71 10 [l0, l1, l2, l3] [v, s1, s0] H r := q_getf (mo_71 7 rfl) mow_71 rfl rfl
theorem r71_10 : Runs xs sl d 71 10 [l0, l1, l2, l3] [.ref b2, s1, s0] H r ↔ ∃ v, hO H b2 6 1 = some v ∧ Runs xs sl d 71 13 [l0, l1, l2, l3] [v, s1, s0] H r := q_getf (mo_71 10 rfl) mow_71 rfl rfl
theorem r71_13 : Runs xs sl d 71 13 [l0, l1, l2, l3] [.int u2, .int u1, s0] H r ↔ Runs xs sl d 71 14 [l0, l1, l2, l3] [.int (u1 <<< (u2 &&& 31)), s0] H r := q_ishl (mo_71 13 rfl) rfl
theorem r71_14 : Runs xs sl d 71 14 [l0, l1, l2, l3] [.int u1, .int u0] H r ↔ if u1 ≤ u0 then Runs xs sl d 71 60 [l0, l1, l2, l3] [] H r else Runs xs sl d 71 17 [l0, l1, l2, l3] [] H r := q_icmp_ge (mo_71 14 rfl) rfl rfl
theorem r71_17 : Runs xs sl d 71 17 [l0, some (.int i1), l2, l3] [] H r ↔ Runs xs sl d 71 18 [l0, some (.int i1), l2, l3] [.int i1] H r := q_iload_n (mo_71 17 rfl) rfl rfl
theorem r71_18 : Runs xs sl d 71 18 [l0, l1, l2, l3] [s0] H r ↔ Runs xs sl d 71 19 [l0, l1, l2, l3] [.int (-1), s0] H r := q_iconst (mo_71 18 rfl) rfl rfl
theorem r71_19 : Runs xs sl d 71 19 [l0, l1, l2, l3] [.int u1, .int u0] H r ↔ if u0 = u1 then Runs xs sl d 71 33 [l0, l1, l2, l3] [] H r else Runs xs sl d 71 22 [l0, l1, l2, l3] [] H r := q_icmp_eq (mo_71 19 rfl) rfl rfl
theorem r71_22 : Runs xs sl d 71 22 [l0, l1, some (.int i2), l3] [] H r ↔ Runs xs sl d 71 23 [l0, l1, some (.int i2), l3] [.int i2] H r := q_iload_n (mo_71 22 rfl) rfl rfl
theorem r71_23 : Runs xs sl (d + 1) 71 23 [l0, l1, l2, l3] [.int u0] H r ↔ ∃ v H1, Runs xs sl d 287 0 [some (.int u0)] [] H (v, H1) ∧ Runs xs sl (d + 1) 71 26 [l0, l1, l2, l3] (v.toList ++ []) H1 r := q_callS (M' := 287) (as := [.int u0]) (rest := []) (mo_71 23 rfl) mow_71 rfl mmx_287 rfl (Nat.le_of_ble_eq_true rfl) (Nat.le_of_ble_eq_true rfl) rfl rfl
theorem r71_26 : Runs xs sl d 71 26 [l0, some (.int i1), l2, l3] [s0] H r ↔ Runs xs sl d 71 27 [l0, some (.int i1), l2, l3] [.int i1, s0] H r := q_iload_n (mo_71 26 rfl) rfl rfl
theorem r71_27 : Runs xs sl (d + 1) 71 27 [l0, l1, l2, l3] [.int u1, .int u0] H r ↔ ∃ v H1, Runs xs sl d 287 0 [some (.int u1)] [] H (v, H1) ∧ Runs xs sl (d + 1) 71 30 [l0, l1, l2, l3] (v.toList ++ [.int u0]) H1 r := q_callS (M' := 287) (as := [.int u1]) (rest := [.int u0]) (mo_71 27 rfl) mow_71 rfl mmx_287 rfl (Nat.le_of_ble_eq_true rfl) (Nat.le_of_ble_eq_true rfl) rfl rfl
theorem r71_30 : Runs xs sl d 71 30 [l0, l1, l2, l3] [.int u1, .int u0] H r ↔ if u1 ≤ u0 then Runs xs sl d 71 37 [l0, l1, l2, l3] [] H r else Runs xs sl d 71 33 [l0, l1, l2, l3] [] H r := q_icmp_ge (mo_71 30 rfl) rfl rfl
theorem r71_33 : Runs xs sl d 71 33 [l0, l1, l2, l3] [] H r ↔ Runs xs sl d 71 34 [l0, l1, l2, l3] [.int 1] H r := q_iconst (mo_71 33 rfl) rfl rfl
theorem r71_34 : Runs xs sl d 71 34 [l0, l1, l2, l3] [s0] H r ↔ Runs xs sl d 71 38 [l0, l1, l2, l3] [s0] H r := q_goto (mo_71 34 rfl) rfl
theorem r71_37 : Runs xs sl d 71 37 [l0, l1, l2, l3] [] H r ↔ Runs xs sl d 71 38 [l0, l1, l2, l3] [.int 0] H r := q_iconst (mo_71 37 rfl) rfl rfl
theorem r71_38 : Runs xs sl d 71 38 [l0, l1, some (.int i2), l3] [.int u0] H r ↔ Runs xs sl d 71 39 [l0, l1, some (.int i2), some (.int u0)] [] H r := q_istore_n (mo_71 38 rfl) (Nat.le_of_ble_eq_true rfl) rfl rfl
theorem r71_39 : Runs xs sl d 71 39 [some (.ref a0), l1, l2, l3] [] H r ↔ Runs xs sl d 71 40 [some (.ref a0), l1, l2, l3] [.ref a0] H r := q_aload_n (mo_71 39 rfl) rfl rfl
theorem r71_40 : Runs xs sl d 71 40 [l0, l1, l2, l3] [.ref b0] H r ↔ ∃ v, hO H b0 3 5 = some v ∧ Runs xs sl d 71 43 [l0, l1, l2, l3] [v] H r := q_getf (mo_71 40 rfl) mow_71 rfl rfl
theorem r71_43 : Runs xs sl d 71 43 [l0, l1, some (.int i2), l3] [s0] H r ↔ Runs xs sl d 71 44 [l0, l1, some (.int i2), l3] [.int i2, s0] H r := q_iload_n (mo_71 43 rfl) rfl rfl
theorem r71_44 : Runs xs sl d 71 44 [l0, l1, l2, l3] [.int u1, .ref b0] H r ↔ ∃ v, hA H b0 0 u1 = some v ∧ Runs xs sl d 71 45 [l0, l1, l2, l3] [.int v] H r := run_iald (mo_71 44 rfl) rfl
theorem r71_45 : Runs xs sl d 71 45 [l0, l1, l2, l3] [.int u0] H r ↔ if u0 ≤ 0 then Runs xs sl d 71 54 [l0, l1, l2, l3] [] H r else Runs xs sl d 71 48 [l0, l1, l2, l3] [] H r := q_if_le (mo_71 45 rfl) rfl rfl
theorem r71_48 : Runs xs sl d 71 48 [l0, l1, l2, some (.int i3)] [] H r ↔ Runs xs sl d 71 49 [l0, l1, l2, some (.int i3)] [.int i3] H r := q_iload_n (mo_71 48 rfl) rfl rfl
theorem r71_49 : Runs xs sl d 71 49 [l0, l1, l2, l3] [.int u0] H r ↔ if u0 = 0 then Runs xs sl d 71 54 [l0, l1, l2, l3] [] H r else Runs xs sl d 71 52 [l0, l1, l2, l3] [] H r := q_if_eq (mo_71 49 rfl) rfl rfl
theorem r71_52 : Runs xs sl d 71 52 [l0, l1, some (.int i2), l3] [] H r ↔ Runs xs sl d 71 53 [l0, l1, some (.int i2), l3] [.int i2] H r := q_iload_n (mo_71 52 rfl) rfl rfl
theorem r71_53 : Runs xs sl d 71 53 [some (.ref a0), l1, l2, l3] [.int u0] H r ↔ Runs xs sl d 71 54 [some (.ref a0), some (.int u0), l2, l3] [] H r := q_istore_n (mo_71 53 rfl) (Nat.le_of_ble_eq_true rfl) rfl rfl
theorem r71_53_1 : Runs xs sl d 71 53 [some .null, l1, l2, l3] [.int u0] H r ↔ Runs xs sl d 71 54 [some .null, some (.int u0), l2, l3] [] H r := q_istore_n (mo_71 53 rfl) (Nat.le_of_ble_eq_true rfl) rfl rfl
theorem r71_54 : Runs xs sl d 71 54 [l0, some (.int i1), some (.int i2), l3] [] H r ↔ Runs xs sl d 71 57 [l0, some (.int i1), some (.int (i2 + 1)), l3] [] H r := q_iinc (mo_71 54 rfl) rfl (Nat.le_of_ble_eq_true rfl) rfl rfl
theorem r71_57 : Runs xs sl d 71 57 [l0, l1, l2, l3] [] H r ↔ Runs xs sl d 71 4 [l0, l1, l2, l3] [] H r := q_goto (mo_71 57 rfl) rfl
theorem r71_60 : Runs xs sl d 71 60 [l0, some (.int i1), l2, l3] [] H r ↔ Runs xs sl d 71 61 [l0, some (.int i1), l2, l3] [.int i1] H r := q_iload_n (mo_71 60 rfl) rfl rfl
theorem r71_61 : Runs xs sl d 71 61 [l0, l1, l2, l3] [.int u0] H r ↔ r = (some (.int u0), H) := q_iret (mo_71 61 rfl) mrt_71
theorem r72_0 : Runs xs sl d 72 0 [some (.ref a0), l1, l2, l3] [] H r ↔ Runs xs sl d 72 1 [some (.ref a0), l1, l2, l3] [.ref a0] H r := q_aload_n (mo_72 0 rfl) rfl rfl
theorem r72_1 : Runs xs sl d 72 1 [l0, some (.int i1), l2, l3] [s0] H r ↔ Runs xs sl d 72 2 [l0, some (.int i1), l2, l3] [.int i1, s0] H r := q_iload_n (mo_72 1 rfl) rfl rfl
theorem r72_2 : Runs xs sl d 72 2 [l0, l1, l2, some (.int i3)] [s1, s0] H r ↔ Runs xs sl d 72 3 [l0, l1, l2, some (.int i3)] [.int i3, s1, s0] H r := q_iload_n (mo_72 2 rfl) rfl rfl
theorem r72_3 (hc : hC H b0 = some 3) : Runs xs sl (d + 1) 72 3 [l0, l1, l2, l3] [.int u2, .int u1, .ref b0] H r ↔ ∃ v H1, Runs xs sl d 73 0 [some (.ref b0), some (.int u1), some (.int u2)] [] H (v, H1) ∧ Runs xs sl (d + 1) 72 6 [l0, l1, l2, l3] (v.toList ++ []) H1 r := q_callV (M' := 73) (as := [.int u1, .int u2]) (rest := []) (mo_72 3 rfl) mow_72 rfl mcs_73 mmx_73 rfl (Nat.le_of_ble_eq_true rfl) (Nat.le_of_ble_eq_true rfl) rfl rfl hc
theorem r72_6 : Runs xs sl d 72 6 [some (.ref a0), l1, l2, l3] [] H r ↔ Runs xs sl d 72 7 [some (.ref a0), l1, l2, l3] [.ref a0] H r := q_aload_n (mo_72 6 rfl) rfl rfl
theorem r72_7 : Runs xs sl d 72 7 [l0, l1, l2, l3] [s0] H r ↔ Runs xs sl d 72 9 [l0, l1, l2, l3] [.int (-3), s0] H r := q_bipush (mo_72 7 rfl) rfl rfl
theorem r72_9 : Runs xs sl d 72 9 [l0, l1, l2, l3] [.int u1, .ref b0] H r ↔ ∃ H1, hOw H b0 3 0 (.int u1) = some H1 ∧ Runs xs sl d 72 12 [l0, l1, l2, l3] [] H1 r := q_putf (mo_72 9 rfl) mow_72 rfl rfl (by decide +kernel) rfl
theorem r72_12 : Runs xs sl d 72 12 [some (.ref a0), l1, l2, l3] [] H r ↔ Runs xs sl d 72 13 [some (.ref a0), l1, l2, l3] [.ref a0] H r := q_aload_n (mo_72 12 rfl) rfl rfl
theorem r72_13 : Runs xs sl d 72 13 [l0, l1, l2, l3] [s0] H r ↔ Runs xs sl d 72 14 [l0, l1, l2, l3] [.int 3, s0] H r := q_iconst (mo_72 13 rfl) rfl rfl
theorem r72_14 : Runs xs sl d 72 14 [l0, l1, l2, l3] [.int u1, .ref b0] H r ↔ ∃ H1, hOw H b0 3 1 (.int u1) = some H1 ∧ Runs xs sl d 72 17 [l0, l1, l2, l3] [] H1 r := q_putf (mo_72 14 rfl) mow_72 rfl rfl (by decide +kernel) rfl
theorem r72_17 : Runs xs sl d 72 17 [some (.ref a0), l1, l2, l3] [] H r ↔ Runs xs sl d 72 18 [some (.ref a0), l1, l2, l3] [.ref a0] H r := q_aload_n (mo_72 17 rfl) rfl rfl
theorem r72_18 : Runs xs sl d 72 18 [l0, l1, l2, l3] [s0] H r ↔ Runs xs sl d 72 19 [l0, l1, l2, l3] [.int 0, s0] H r := q_iconst (mo_72 18 rfl) rfl rfl
theorem r72_19 : Runs xs sl d 72 19 [l0, l1, l2, l3] [.int u1, .ref b0] H r ↔ ∃ H1, hOw H b0 3 2 (.int u1) = some H1 ∧ Runs xs sl d 72 22 [l0, l1, l2, l3] [] H1 r := q_putf (mo_72 19 rfl) mow_72 rfl rfl (by decide +kernel) rfl
theorem r72_22 : Runs xs sl d 72 22 [some (.ref a0), l1, l2, l3] [] H r ↔ Runs xs sl d 72 23 [some (.ref a0), l1, l2, l3] [.ref a0] H r := q_aload_n (mo_72 22 rfl) rfl rfl
theorem r72_23 : Runs xs sl d 72 23 [l0, l1, l2, l3] [s0] H r ↔ Runs xs sl d 72 24 [l0, l1, l2, l3] [.int 0, s0] H r := q_iconst (mo_72 23 rfl) rfl rfl
theorem r72_24 : Runs xs sl d 72 24 [l0, l1, some (.int i2), l3] [s1, s0] H r ↔ Runs xs sl d 72 25 [l0, l1, some (.int i2), l3] [.int i2, s1, s0] H r := q_iload_n (mo_72 24 rfl) rfl rfl
theorem r72_25 : Runs xs sl d 72 25 [l0, l1, l2, l3] [s2, s1, s0] H r ↔ Runs xs sl d 72 26 [l0, l1, l2, l3] [.int 1, s2, s1, s0] H r := q_iconst (mo_72 25 rfl) rfl rfl
theorem r72_26 (hc : hC H b0 = some 3) : Runs xs sl (d + 1) 72 26 [l0, l1, l2, l3] [.int u3, .int u2, .int u1, .ref b0] H r ↔ ∃ v H1, Runs xs sl d 74 0 [some (.ref b0), some (.int u1), some (.int u2), some (.int u3), none, none, none] [] H (v, H1) ∧ Runs xs sl (d + 1) 72 29 [l0, l1, l2, l3] (v.toList ++ []) H1 r := q_callV (M' := 74) (as := [.int u1, .int u2, .int u3]) (rest := []) (mo_72 26 rfl) mow_72 rfl mcs_74 mmx_74 rfl (Nat.le_of_ble_eq_true rfl) (Nat.le_of_ble_eq_true rfl) rfl rfl hc
theorem r72_29 : Runs xs sl d 72 29 [l0, l1, l2, l3] [] H r ↔ r = (none, H) := q_ret (mo_72 29 rfl) mrt_72
theorem r73_0 : Runs xs sl d 73 0 [some (.ref a0), l1, l2] [] H r ↔ Runs xs sl d 73 1 [some (.ref a0), l1, l2] [.ref a0] H r := q_aload_n (mo_73 0 rfl) rfl rfl
theorem r73_1 : Runs xs sl d 73 1 [l0, l1, some (.int i2)] [s0] H r ↔ Runs xs sl d 73 2 [l0, l1, some (.int i2)] [.int i2, s0] H r := q_iload_n (mo_73 1 rfl) rfl rfl
theorem r73_2 : Runs xs sl d 73 2 [l0, l1, l2] [.int u1, .ref b0] H r ↔ ∃ H1, hOw H b0 3 8 (.int u1) = some H1 ∧ Runs xs sl d 73 5 [l0, l1, l2] [] H1 r := q_putf (mo_73 2 rfl) mow_73 rfl rfl (by decide +kernel) rfl
theorem r73_5 : Runs xs sl d 73 5 [some (.ref a0), l1, l2] [] H r ↔ Runs xs sl d 73 6 [some (.ref a0), l1, l2] [.ref a0] H r := q_aload_n (mo_73 5 rfl) rfl rfl
theorem r73_6 : Runs xs sl d 73 6 [some (.ref a0), l1, l2] [s0] H r ↔ Runs xs sl d 73 7 [some (.ref a0), l1, l2] [.ref a0, s0] H r := q_aload_n (mo_73 6 rfl) rfl rfl
theorem r73_7 : Runs xs sl d 73 7 [l0, l1, l2] [.ref b1, s0] H r ↔ ∃ v, hO H b1 3 3 = some v ∧ Runs xs sl d 73 10 [l0, l1, l2] [v, s0] H r := q_getf (mo_73 7 rfl) mow_73 rfl rfl
theorem r73_10 : Runs xs sl d 73 10 [l0, l1, l2] [.ref b1, s0] H r ↔ ∃ v, hO H b1 6 0 = some v ∧ Runs xs sl d 73 13 [l0, l1, l2] [v, s0] H r := q_getf (mo_73 10 rfl) mow_73 rfl rfl
theorem r73_13 : Runs xs sl d 73 13 [l0, l1, l2] [.ref b1, s0] H r ↔ ∃ v, hO H b1 8 6 = some v ∧ Runs xs sl d 73 16 [l0, l1, l2] [v, s0] H r := q_getf (mo_73 13 rfl) mow_73 rfl rfl
theorem r73_16 : Runs xs sl d 73 16 [l0, some (.int i1), l2] [s1, s0] H r ↔ Runs xs sl d 73 17 [l0, some (.int i1), l2] [.int i1, s1, s0] H r := q_iload_n (mo_73 16 rfl) rfl rfl
theorem r73_17 : Runs xs sl d 73 17 [l0, l1, l2] [.int u2, .ref b1, s0] H r ↔ ∃ v, hA H b1 0 u2 = some v ∧ Runs xs sl d 73 18 [l0, l1, l2] [.int v, s0] H r := run_iald (mo_73 17 rfl) rfl
theorem r73_18 : Runs xs sl d 73 18 [l0, l1, l2] [.int u1, .ref b0] H r ↔ ∃ H1, hOw H b0 3 9 (.int u1) = some H1 ∧ Runs xs sl d 73 21 [l0, l1, l2] [] H1 r := q_putf (mo_73 18 rfl) mow_73 rfl rfl (by decide +kernel) rfl
theorem r73_21 : Runs xs sl d 73 21 [some (.ref a0), l1, l2] [] H r ↔ Runs xs sl d 73 22 [some (.ref a0), l1, l2] [.ref a0] H r := q_aload_n (mo_73 21 rfl) rfl rfl
theorem r73_22 : Runs xs sl d 73 22 [l0, l1, l2] [.ref b0] H r ↔ ∃ v, hO H b0 3 3 = some v ∧ Runs xs sl d 73 25 [l0, l1, l2] [v] H r := q_getf (mo_73 22 rfl) mow_73 rfl rfl
theorem r73_25 : Runs xs sl d 73 25 [l0, l1, l2] [.ref b0] H r ↔ ∃ v, hO H b0 6 2 = some v ∧ Runs xs sl d 73 28 [l0, l1, l2] [v] H r := q_getf (mo_73 25 rfl) mow_73 rfl rfl
theorem r73_28 : Runs xs sl d 73 28 [l0, some (.int i1), l2] [s0] H r ↔ Runs xs sl d 73 29 [l0, some (.int i1), l2] [.int i1, s0] H r := q_iload_n (mo_73 28 rfl) rfl rfl
theorem r73_29 : Runs xs sl d 73 29 [l0, l1, l2] [s1, s0] H r ↔ Runs xs sl d 73 31 [l0, l1, l2] [.int 6, s1, s0] H r := q_bipush (mo_73 29 rfl) rfl rfl
theorem r73_31 : Runs xs sl d 73 31 [l0, l1, l2] [.int u2, .int u1, s0] H r ↔ Runs xs sl d 73 32 [l0, l1, l2] [.int (u1 * u2), s0] H r := q_imul (mo_73 31 rfl) rfl
theorem r73_32 : Runs xs sl d 73 32 [some (.ref a0), l1, l2] [s1, s0] H r ↔ Runs xs sl d 73 33 [some (.ref a0), l1, l2] [.ref a0, s1, s0] H r := q_aload_n (mo_73 32 rfl) rfl rfl
theorem r73_33 : Runs xs sl d 73 33 [l0, l1, l2] [.ref b2, s1, s0] H r ↔ ∃ v, hO H b2 3 6 = some v ∧ Runs xs sl d 73 36 [l0, l1, l2] [v, s1, s0] H r := q_getf (mo_73 33 rfl) mow_73 rfl rfl
theorem r73_36 : Runs xs sl d 73 36 [l0, l1, l2] [s2, s1, s0] H r ↔ Runs xs sl d 73 37 [l0, l1, l2] [.int 0, s2, s1, s0] H r := q_iconst (mo_73 36 rfl) rfl rfl
theorem r73_37 : Runs xs sl d 73 37 [l0, l1, l2] [s3, s2, s1, s0] H r ↔ Runs xs sl d 73 39 [l0, l1, l2] [.int 6, s3, s2, s1, s0] H r := q_bipush (mo_73 37 rfl) rfl rfl
theorem r73_39 : Runs xs sl (d + 1) 73 39 [l0, l1, l2] [.int u4, .int u3, .ref b2, .int u1, .ref b0] H r ↔ ∃ H1, hCp H b0 b2 u1 u3 u4 = some H1 ∧ Runs xs sl (d + 1) 73 42 [l0, l1, l2] [] H1 r := q_copy (mo_73 39 rfl) mow_73 rfl (Nat.le_of_ble_eq_true rfl) rfl
theorem r73_42 : Runs xs sl d 73 42 [l0, l1, l2] [] H r ↔ r = (none, H) := q_ret (mo_73 42 rfl) mrt_73
theorem r74_0 : Runs xs sl d 74 0 [l0, l1, some (.int i2), l3, l4, l5, l6] [] H r ↔ Runs xs sl d 74 1 [l0, l1, some (.int i2), l3, l4, l5, l6] [.int i2] H r := q_iload_n (mo_74 0 rfl) rfl rfl
theorem r74_1 : Runs xs sl d 74 1 [l0, l1, l2, l3, l4, l5, l6] [.int u0] H r ↔ if u0 = 0 then Runs xs sl d 74 10 [l0, l1, l2, l3, l4, l5, l6] [] H r else Runs xs sl d 74 4 [l0, l1, l2, l3, l4, l5, l6] [] H r := q_if_eq (mo_74 1 rfl) rfl rfl
theorem r74_4 : Runs xs sl d 74 4 [l0, some (.int i1), l2, l3, l4, l5, l6] [] H r ↔ Runs xs sl d 74 5 [l0, some (.int i1), l2, l3, l4, l5, l6] [.int i1] H r := q_iload_n (mo_74 4 rfl) rfl rfl
theorem r74_5 : Runs xs sl d 74 5 [l0, l1, l2, l3, l4, l5, l6] [s0] H r ↔ Runs xs sl d 74 7 [l0, l1, l2, l3, l4, l5, l6] [.int 8, s0] H r := q_bipush (mo_74 5 rfl) rfl rfl
theorem r74_7 : Runs xs sl d 74 7 [l0, l1, l2, l3, l4, l5, l6] [.int u1, .int u0] H r ↔ if u0 < u1 then Runs xs sl d 74 79 [l0, l1, l2, l3, l4, l5, l6] [] H r else Runs xs sl d 74 10 [l0, l1, l2, l3, l4, l5, l6] [] H r := q_icmp_lt (mo_74 7 rfl) rfl rfl
theorem r74_10 : Runs xs sl d 74 10 [some (.ref a0), l1, l2, l3, l4, l5, l6] [] H r ↔ Runs xs sl d 74 11 [some (.ref a0), l1, l2, l3, l4, l5, l6] [.ref a0] H r := q_aload_n (mo_74 10 rfl) rfl rfl
theorem r74_11 : Runs xs sl d 74 11 [some (.ref a0), l1, l2, l3, l4, l5, l6] [s0] H r ↔ Runs xs sl d 74 12 [some (.ref a0), l1, l2, l3, l4, l5, l6] [.ref a0, s0] H r := q_aload_n (mo_74 11 rfl) rfl rfl
theorem r74_12 : Runs xs sl d 74 12 [l0, l1, l2, l3, l4, l5, l6] [.ref b1, s0] H r ↔ ∃ v, hO H b1 3 0 = some v ∧ Runs xs sl d 74 15 [l0, l1, l2, l3, l4, l5, l6] [v, s0] H r := q_getf (mo_74 12 rfl) mow_74 rfl rfl
theorem r74_15 : Runs xs sl d 74 15 [some (.ref a0), l1, l2, l3, l4, l5, l6] [s1, s0] H r ↔ Runs xs sl d 74 16 [some (.ref a0), l1, l2, l3, l4, l5, l6] [.ref a0, s1, s0] H r := q_aload_n (mo_74 15 rfl) rfl rfl
theorem r74_16 : Runs xs sl d 74 16 [l0, l1, l2, l3, l4, l5, l6] [.ref b2, s1, s0] H r ↔ ∃ v, hO H b2 3 6 = some v ∧ Runs xs sl d 74 19 [l0, l1, l2, l3, l4, l5, l6] [v, s1, s0] H r := q_getf (mo_74 16 rfl) mow_74 rfl rfl
theorem r74_19 : Runs xs sl d 74 19 [l0, some (.int i1), l2, l3, l4, l5, l6] [s2, s1, s0] H r ↔ Runs xs sl d 74 20 [l0, some (.int i1), l2, l3, l4, l5, l6] [.int i1, s2, s1, s0] H r := q_iload_n (mo_74 19 rfl) rfl rfl
theorem r74_20 : Runs xs sl d 74 20 [l0, l1, l2, l3, l4, l5, l6] [s3, s2, s1, s0] H r ↔ Runs xs sl d 74 22 [l0, l1, l2, l3, l4, l5, l6] [.int 6, s3, s2, s1, s0] H r := q_bipush (mo_74 20 rfl) rfl rfl
theorem r74_22 : Runs xs sl d 74 22 [l0, l1, l2, l3, l4, l5, l6] [.int u4, .int u3, s2, s1, s0] H r ↔ Runs xs sl d 74 23 [l0, l1, l2, l3, l4, l5, l6] [.int (u3 * u4), s2, s1, s0] H r := q_imul (mo_74 22 rfl) rfl
theorem r74_23 : Runs xs sl d 74 23 [some (.ref a0), l1, l2, l3, l4, l5, l6] [s3, s2, s1, s0] H r ↔ Runs xs sl d 74 24 [some (.ref a0), l1, l2, l3, l4, l5, l6] [.ref a0, s3, s2, s1, s0] H r := q_aload_n (mo_74 23 rfl) rfl rfl
theorem r74_24 : Runs xs sl d 74 24 [l0, l1, l2, l3, l4, l5, l6] [.ref b4, s3, s2, s1, s0] H r ↔ ∃ v, hO H b4 3 8 = some v ∧ Runs xs sl d 74 27 [l0, l1, l2, l3, l4, l5, l6] [v, s3, s2, s1, s0] H r := q_getf (mo_74 24 rfl) mow_74 rfl rfl
theorem r74_27 : Runs xs sl d 74 27 [l0, l1, l2, l3, l4, l5, l6] [.int u4, .int u3, s2, s1, s0] H r ↔ Runs xs sl d 74 28 [l0, l1, l2, l3, l4, l5, l6] [.int (u3 + u4), s2, s1, s0] H r := q_iadd (mo_74 27 rfl) rfl
theorem r74_28 : Runs xs sl d 74 28 [l0, l1, l2, l3, l4, l5, l6] [.int u3, .ref b2, s1, s0] H r ↔ ∃ v, hA H b2 0 u3 = some v ∧ Runs xs sl d 74 29 [l0, l1, l2, l3, l4, l5, l6] [.int v, s1, s0] H r := run_iald (mo_74 28 rfl) rfl
theorem r74_29 : Runs xs sl (d + 1) 74 29 [l0, l1, l2, l3, l4, l5, l6] [.int u2, .int u1, .ref b0] H r ↔ Runs xs sl (d + 1) 74 32 [l0, l1, l2, l3, l4, l5, l6] [.int (if u1 < u2 then u2 else u1), .ref b0] H r := q_mmax (mo_74 29 rfl) mow_74 rfl (Nat.le_of_ble_eq_true rfl) rfl
theorem r74_32 : Runs xs sl d 74 32 [l0, l1, l2, l3, l4, l5, l6] [.int u1, .ref b0] H r ↔ ∃ H1, hOw H b0 3 0 (.int u1) = some H1 ∧ Runs xs sl d 74 35 [l0, l1, l2, l3, l4, l5, l6] [] H1 r := q_putf (mo_74 32 rfl) mow_74 rfl rfl (by decide +kernel) rfl
theorem r74_35 : Runs xs sl d 74 35 [some (.ref a0), l1, l2, l3, l4, l5, l6] [] H r ↔ Runs xs sl d 74 36 [some (.ref a0), l1, l2, l3, l4, l5, l6] [.ref a0] H r := q_aload_n (mo_74 35 rfl) rfl rfl
theorem r74_36 : Runs xs sl d 74 36 [some (.ref a0), l1, l2, l3, l4, l5, l6] [s0] H r ↔ Runs xs sl d 74 37 [some (.ref a0), l1, l2, l3, l4, l5, l6] [.ref a0, s0] H r := q_aload_n (mo_74 36 rfl) rfl rfl
theorem r74_37 : Runs xs sl d 74 37 [l0, l1, l2, l3, l4, l5, l6] [.ref b1, s0] H r ↔ ∃ v, hO H b1 3 1 = some v ∧ Runs xs sl d 74 40 [l0, l1, l2, l3, l4, l5, l6] [v, s0] H r := q_getf (mo_74 37 rfl) mow_74 rfl rfl
theorem r74_40 : Runs xs sl d 74 40 [some (.ref a0), l1, l2, l3, l4, l5, l6] [s1, s0] H r ↔ Runs xs sl d 74 41 [some (.ref a0), l1, l2, l3, l4, l5, l6] [.ref a0, s1, s0] H r := q_aload_n (mo_74 40 rfl) rfl rfl
theorem r74_41 : Runs xs sl d 74 41 [l0, l1, l2, l3, l4, l5, l6] [.ref b2, s1, s0] H r ↔ ∃ v, hO H b2 3 6 = some v ∧ Runs xs sl d 74 44 [l0, l1, l2, l3, l4, l5, l6] [v, s1, s0] H r := q_getf (mo_74 41 rfl) mow_74 rfl rfl
theorem r74_44 : Runs xs sl d 74 44 [l0, some (.int i1), l2, l3, l4, l5, l6] [s2, s1, s0] H r ↔ Runs xs sl d 74 45 [l0, some (.int i1), l2, l3, l4, l5, l6] [.int i1, s2, s1, s0] H r := q_iload_n (mo_74 44 rfl) rfl rfl
theorem r74_45 : Runs xs sl d 74 45 [l0, l1, l2, l3, l4, l5, l6] [s3, s2, s1, s0] H r ↔ Runs xs sl d 74 47 [l0, l1, l2, l3, l4, l5, l6] [.int 6, s3, s2, s1, s0] H r := q_bipush (mo_74 45 rfl) rfl rfl
theorem r74_47 : Runs xs sl d 74 47 [l0, l1, l2, l3, l4, l5, l6] [.int u4, .int u3, s2, s1, s0] H r ↔ Runs xs sl d 74 48 [l0, l1, l2, l3, l4, l5, l6] [.int (u3 * u4), s2, s1, s0] H r := q_imul (mo_74 47 rfl) rfl
theorem r74_48 : Runs xs sl d 74 48 [some (.ref a0), l1, l2, l3, l4, l5, l6] [s3, s2, s1, s0] H r ↔ Runs xs sl d 74 49 [some (.ref a0), l1, l2, l3, l4, l5, l6] [.ref a0, s3, s2, s1, s0] H r := q_aload_n (mo_74 48 rfl) rfl rfl
theorem r74_49 : Runs xs sl d 74 49 [l0, l1, l2, l3, l4, l5, l6] [.ref b4, s3, s2, s1, s0] H r ↔ ∃ v, hO H b4 3 8 = some v ∧ Runs xs sl d 74 52 [l0, l1, l2, l3, l4, l5, l6] [v, s3, s2, s1, s0] H r := q_getf (mo_74 49 rfl) mow_74 rfl rfl
theorem r74_52 : Runs xs sl d 74 52 [l0, l1, l2, l3, l4, l5, l6] [.int u4, .int u3, s2, s1, s0] H r ↔ Runs xs sl d 74 53 [l0, l1, l2, l3, l4, l5, l6] [.int (u3 + u4), s2, s1, s0] H r := q_iadd (mo_74 52 rfl) rfl
theorem r74_53 : Runs xs sl d 74 53 [l0, l1, l2, l3, l4, l5, l6] [.int u3, .ref b2, s1, s0] H r ↔ ∃ v, hA H b2 0 u3 = some v ∧ Runs xs sl d 74 54 [l0, l1, l2, l3, l4, l5, l6] [.int v, s1, s0] H r := run_iald (mo_74 53 rfl) rfl
theorem r74_54 : Runs xs sl (d + 1) 74 54 [l0, l1, l2, l3, l4, l5, l6] [.int u2, .int u1, .ref b0] H r ↔ Runs xs sl (d + 1) 74 57 [l0, l1, l2, l3, l4, l5, l6] [.int (if u2 < u1 then u2 else u1), .ref b0] H r := q_mmin (mo_74 54 rfl) mow_74 rfl (Nat.le_of_ble_eq_true rfl) rfl
theorem r74_57 : Runs xs sl d 74 57 [l0, l1, l2, l3, l4, l5, l6] [.int u1, .ref b0] H r ↔ ∃ H1, hOw H b0 3 1 (.int u1) = some H1 ∧ Runs xs sl d 74 60 [l0, l1, l2, l3, l4, l5, l6] [] H1 r := q_putf (mo_74 57 rfl) mow_74 rfl rfl (by decide +kernel) rfl
theorem r74_60 : Runs xs sl d 74 60 [some (.ref a0), l1, l2, l3, l4, l5, l6] [] H r ↔ Runs xs sl d 74 61 [some (.ref a0), l1, l2, l3, l4, l5, l6] [.ref a0] H r := q_aload_n (mo_74 60 rfl) rfl rfl
theorem r74_61 : Runs xs sl d 74 61 [l0, l1, l2, l3, l4, l5, l6] [.ref b0] H r ↔ Runs xs sl d 74 62 [l0, l1, l2, l3, l4, l5, l6] [.ref b0, .ref b0] H r := q_dup (mo_74 61 rfl) rfl rfl
theorem r74_62 : Runs xs sl d 74 62 [l0, l1, l2, l3, l4, l5, l6] [.ref b1, s0] H r ↔ ∃ v, hO H b1 3 2 = some v ∧ Runs xs sl d 74 65 [l0, l1, l2, l3, l4, l5, l6] [v, s0] H r := q_getf (mo_74 62 rfl) mow_74 rfl rfl
theorem r74_65 : Runs xs sl d 74 65 [l0, l1, l2, some (.int i3), l4, l5, l6] [s1, s0] H r ↔ Runs xs sl d 74 66 [l0, l1, l2, some (.int i3), l4, l5, l6] [.int i3, s1, s0] H r := q_iload_n (mo_74 65 rfl) rfl rfl
theorem r74_66 : Runs xs sl d 74 66 [l0, l1, l2, l3, l4, l5, l6] [.int u2, s1, s0] H r ↔ if u2 = 0 then Runs xs sl d 74 73 [l0, l1, l2, l3, l4, l5, l6] [s1, s0] H r else Runs xs sl d 74 69 [l0, l1, l2, l3, l4, l5, l6] [s1, s0] H r := q_if_eq (mo_74 66 rfl) rfl rfl
theorem r74_69 : Runs xs sl d 74 69 [l0, l1, l2, l3, l4, l5, l6] [s1, s0] H r ↔ Runs xs sl d 74 70 [l0, l1, l2, l3, l4, l5, l6] [.int 1, s1, s0] H r := q_iconst (mo_74 69 rfl) rfl rfl
theorem r74_70 : Runs xs sl d 74 70 [l0, l1, l2, l3, l4, l5, l6] [s2, s1, s0] H r ↔ Runs xs sl d 74 74 [l0, l1, l2, l3, l4, l5, l6] [s2, s1, s0] H r := q_goto (mo_74 70 rfl) rfl
theorem r74_73 : Runs xs sl d 74 73 [l0, l1, l2, l3, l4, l5, l6] [s1, s0] H r ↔ Runs xs sl d 74 74 [l0, l1, l2, l3, l4, l5, l6] [.int 0, s1, s0] H r := q_iconst (mo_74 73 rfl) rfl rfl
theorem r74_74 : Runs xs sl d 74 74 [l0, l1, l2, l3, l4, l5, l6] [.int u2, .int u1, s0] H r ↔ Runs xs sl d 74 75 [l0, l1, l2, l3, l4, l5, l6] [.int (u1 + u2), s0] H r := q_iadd (mo_74 74 rfl) rfl
theorem r74_75 : Runs xs sl d 74 75 [l0, l1, l2, l3, l4, l5, l6] [.int u1, .ref b0] H r ↔ ∃ H1, hOw H b0 3 2 (.int u1) = some H1 ∧ Runs xs sl d 74 78 [l0, l1, l2, l3, l4, l5, l6] [] H1 r := q_putf (mo_74 75 rfl) mow_74 rfl rfl (by decide +kernel) rfl
theorem r74_78 : Runs xs sl d 74 78 [l0, l1, l2, l3, l4, l5, l6] [] H r ↔ r = (none, H) := q_ret (mo_74 78 rfl) mrt_74
theorem r74_79 : Runs xs sl d 74 79 [l0, l1, l2, l3, l4, l5, l6] [] H r ↔ Runs xs sl d 74 80 [l0, l1, l2, l3, l4, l5, l6] [.int 0] H r := q_iconst (mo_74 79 rfl) rfl rfl
theorem r74_80 : Runs xs sl d 74 80 [l0, l1, l2, some (.int i3), l4, l5, l6] [.int u0] H r ↔ Runs xs sl d 74 82 [l0, l1, l2, some (.int i3), some (.int u0), l5, l6] [] H r := q_istore (mo_74 80 rfl) (Nat.le_of_ble_eq_true rfl) rfl rfl
theorem r74_82 : Runs xs sl d 74 82 [l0, l1, l2, l3, some (.int i4), l5, l6] [] H r ↔ Runs xs sl d 74 84 [l0, l1, l2, l3, some (.int i4), l5, l6] [.int i4] H r := q_iload (mo_74 82 rfl) rfl rfl
theorem r74_84 : Runs xs sl d 74 84 [some (.ref a0), l1, l2, l3, l4, l5, l6] [s0] H r ↔ Runs xs sl d 74 85 [some (.ref a0), l1, l2, l3, l4, l5, l6] [.ref a0, s0] H r := q_aload_n (mo_74 84 rfl) rfl rfl
theorem r74_85 : Runs xs sl d 74 85 [l0, l1, l2, l3, l4, l5, l6] [.ref b1, s0] H r ↔ ∃ v, hO H b1 3 3 = some v ∧ Runs xs sl d 74 88 [l0, l1, l2, l3, l4, l5, l6] [v, s0] H r := q_getf (mo_74 85 rfl) mow_74 rfl rfl
theorem r74_88 : Runs xs sl d 74 88 [l0, l1, l2, l3, l4, l5, l6] [.ref b1, s0] H r ↔ ∃ v, hO H b1 6 1 = some v ∧ Runs xs sl d 74 91 [l0, l1, l2, l3, l4, l5, l6] [v, s0] H r := q_getf (mo_74 88 rfl) mow_74 rfl rfl
theorem r74_91 : Runs xs sl d 74 91 [l0, l1, l2, l3, l4, l5, l6] [.int u1, .int u0] H r ↔ if u1 ≤ u0 then Runs xs sl d 74 186 [l0, l1, l2, l3, l4, l5, l6] [] H r else Runs xs sl d 74 94 [l0, l1, l2, l3, l4, l5, l6] [] H r := q_icmp_ge (mo_74 91 rfl) rfl rfl
theorem r74_94 : Runs xs sl d 74 94 [l0, l1, some (.int i2), l3, l4, l5, l6] [] H r ↔ Runs xs sl d 74 95 [l0, l1, some (.int i2), l3, l4, l5, l6] [.int i2] H r := q_iload_n (mo_74 94 rfl) rfl rfl
theorem r74_95 : Runs xs sl d 74 95 [l0, l1, l2, l3, some (.int i4), l5, l6] [s0] H r ↔ Runs xs sl d 74 97 [l0, l1, l2, l3, some (.int i4), l5, l6] [.int i4, s0] H r := q_iload (mo_74 95 rfl) rfl rfl
theorem r74_97 : Runs xs sl d 74 97 [l0, l1, l2, l3, l4, l5, l6] [.int u1, .int u0] H r ↔ Runs xs sl d 74 98 [l0, l1, l2, l3, l4, l5, l6] [.int (u0 >>> (u1 &&& 31))] H r := q_ishr (mo_74 97 rfl) rfl
theorem r74_98 : Runs xs sl d 74 98 [l0, l1, l2, l3, l4, l5, l6] [s0] H r ↔ Runs xs sl d 74 99 [l0, l1, l2, l3, l4, l5, l6] [.int 1, s0] H r := q_iconst (mo_74 98 rfl) rfl rfl
theorem r74_99 : Runs xs sl d 74 99 [l0, l1, l2, l3, l4, l5, l6] [.int u1, .int u0] H r ↔ Runs xs sl d 74 100 [l0, l1, l2, l3, l4, l5, l6] [.int (u0 &&& u1)] H r := q_iand (mo_74 99 rfl) rfl
theorem r74_100 : Runs xs sl d 74 100 [l0, l1, l2, l3, l4, l5, l6] [.int u0] H r ↔ if u0 = 0 then Runs xs sl d 74 180 [l0, l1, l2, l3, l4, l5, l6] [] H r else Runs xs sl d 74 103 [l0, l1, l2, l3, l4, l5, l6] [] H r := q_if_eq (mo_74 100 rfl) rfl rfl
theorem r74_103 : Runs xs sl d 74 103 [some (.ref a0), l1, l2, l3, l4, l5, l6] [] H r ↔ Runs xs sl d 74 104 [some (.ref a0), l1, l2, l3, l4, l5, l6] [.ref a0] H r := q_aload_n (mo_74 103 rfl) rfl rfl
theorem r74_104 : Runs xs sl d 74 104 [l0, some (.int i1), l2, l3, l4, l5, l6] [s0] H r ↔ Runs xs sl d 74 105 [l0, some (.int i1), l2, l3, l4, l5, l6] [.int i1, s0] H r := q_iload_n (mo_74 104 rfl) rfl rfl
theorem r74_105 (hc : hC H b0 = some 3) : Runs xs sl (d + 1) 74 105 [l0, l1, l2, l3, l4, l5, l6] [.int u1, .ref b0] H r ↔ ∃ v H1, Runs xs sl d 75 0 [some (.ref b0), some (.int u1), none] [] H (v, H1) ∧ Runs xs sl (d + 1) 74 108 [l0, l1, l2, l3, l4, l5, l6] (v.toList ++ []) H1 r := q_callV (M' := 75) (as := [.int u1]) (rest := []) (mo_74 105 rfl) mow_74 rfl mcs_75 mmx_75 rfl (Nat.le_of_ble_eq_true rfl) (Nat.le_of_ble_eq_true rfl) rfl rfl hc
theorem r74_108 : Runs xs sl d 74 108 [l0, l1, l2, l3, some (.int i4), l5, l6] [.int u0] H r ↔ Runs xs sl d 74 110 [l0, l1, l2, l3, some (.int i4), some (.int u0), l6] [] H r := q_istore (mo_74 108 rfl) (Nat.le_of_ble_eq_true rfl) rfl rfl
theorem r74_110 : Runs xs sl d 74 110 [some (.ref a0), l1, l2, l3, l4, l5, l6] [] H r ↔ Runs xs sl d 74 111 [some (.ref a0), l1, l2, l3, l4, l5, l6] [.ref a0] H r := q_aload_n (mo_74 110 rfl) rfl rfl
theorem r74_111 : Runs xs sl d 74 111 [l0, l1, l2, l3, l4, l5, l6] [.ref b0] H r ↔ ∃ v, hO H b0 3 3 = some v ∧ Runs xs sl d 74 114 [l0, l1, l2, l3, l4, l5, l6] [v] H r := q_getf (mo_74 111 rfl) mow_74 rfl rfl
theorem r74_114 : Runs xs sl d 74 114 [some (.ref a0), l1, l2, l3, l4, l5, l6] [s0] H r ↔ Runs xs sl d 74 115 [some (.ref a0), l1, l2, l3, l4, l5, l6] [.ref a0, s0] H r := q_aload_n (mo_74 114 rfl) rfl rfl
theorem r74_115 : Runs xs sl d 74 115 [l0, l1, l2, l3, l4, l5, l6] [.ref b1, s0] H r ↔ ∃ v, hO H b1 3 6 = some v ∧ Runs xs sl d 74 118 [l0, l1, l2, l3, l4, l5, l6] [v, s0] H r := q_getf (mo_74 115 rfl) mow_74 rfl rfl
theorem r74_118 : Runs xs sl d 74 118 [l0, l1, l2, l3, l4, some (.int i5), l6] [s1, s0] H r ↔ Runs xs sl d 74 120 [l0, l1, l2, l3, l4, some (.int i5), l6] [.int i5, s1, s0] H r := q_iload (mo_74 118 rfl) rfl rfl
theorem r74_120 : Runs xs sl d 74 120 [l0, l1, l2, l3, some (.int i4), l5, l6] [s2, s1, s0] H r ↔ Runs xs sl d 74 122 [l0, l1, l2, l3, some (.int i4), l5, l6] [.int i4, s2, s1, s0] H r := q_iload (mo_74 120 rfl) rfl rfl
theorem r74_122 : Runs xs sl d 74 122 [some (.ref a0), l1, l2, l3, l4, l5, l6] [s3, s2, s1, s0] H r ↔ Runs xs sl d 74 123 [some (.ref a0), l1, l2, l3, l4, l5, l6] [.ref a0, s3, s2, s1, s0] H r := q_aload_n (mo_74 122 rfl) rfl rfl
theorem r74_123 : Runs xs sl d 74 123 [l0, l1, l2, l3, l4, l5, l6] [.ref b4, s3, s2, s1, s0] H r ↔ ∃ v, hO H b4 3 9 = some v ∧ Runs xs sl d 74 126 [l0, l1, l2, l3, l4, l5, l6] [v, s3, s2, s1, s0] H r := q_getf (mo_74 123 rfl) mow_74 rfl rfl
theorem r74_126 (hc : hC H b0 = some 6) : Runs xs sl (d + 1) 74 126 [l0, l1, l2, l3, l4, l5, l6] [.int u4, .int u3, .int u2, .ref b1, .ref b0] H r ↔ ∃ v H1, Runs xs sl d 125 0 [some (.ref b0), some (.ref b1), some (.int u2), some (.int u3), some (.int u4), none, none, none, none] [] H (v, H1) ∧ Runs xs sl (d + 1) 74 129 [l0, l1, l2, l3, l4, l5, l6] (v.toList ++ []) H1 r := q_callV (M' := 125) (as := [.ref b1, .int u2, .int u3, .int u4]) (rest := []) (mo_74 126 rfl) mow_74 rfl mcs_125 mmx_125 rfl (Nat.le_of_ble_eq_true rfl) (Nat.le_of_ble_eq_true rfl) rfl rfl hc
theorem r74_129 : Runs xs sl d 74 129 [l0, l1, l2, l3, l4, some (.int i5), l6] [.int u0] H r ↔ Runs xs sl d 74 131 [l0, l1, l2, l3, l4, some (.int i5), some (.int u0)] [] H r := q_istore (mo_74 129 rfl) (Nat.le_of_ble_eq_true rfl) rfl rfl
theorem r74_131 : Runs xs sl d 74 131 [l0, l1, l2, l3, l4, l5, some (.int i6)] [] H r ↔ Runs xs sl d 74 133 [l0, l1, l2, l3, l4, l5, some (.int i6)] [.int i6] H r := q_iload (mo_74 131 rfl) rfl rfl
theorem r74_133 : Runs xs sl d 74 133 [l0, l1, l2, l3, l4, l5, l6] [.int u0] H r ↔ if u0 = 0 then Runs xs sl d 74 153 [l0, l1, l2, l3, l4, l5, l6] [] H r else Runs xs sl d 74 136 [l0, l1, l2, l3, l4, l5, l6] [] H r := q_if_eq (mo_74 133 rfl) rfl rfl
theorem r74_136 : Runs xs sl d 74 136 [some (.ref a0), l1, l2, l3, l4, l5, l6] [] H r ↔ Runs xs sl d 74 137 [some (.ref a0), l1, l2, l3, l4, l5, l6] [.ref a0] H r := q_aload_n (mo_74 136 rfl) rfl rfl
theorem r74_137 : Runs xs sl d 74 137 [l0, l1, l2, l3, l4, l5, l6] [.ref b0] H r ↔ ∃ v, hO H b0 3 3 = some v ∧ Runs xs sl d 74 140 [l0, l1, l2, l3, l4, l5, l6] [v] H r := q_getf (mo_74 137 rfl) mow_74 rfl rfl
theorem r74_140 : Runs xs sl d 74 140 [some (.ref a0), l1, l2, l3, l4, l5, l6] [s0] H r ↔ Runs xs sl d 74 141 [some (.ref a0), l1, l2, l3, l4, l5, l6] [.ref a0, s0] H r := q_aload_n (mo_74 140 rfl) rfl rfl
theorem r74_141 : Runs xs sl d 74 141 [l0, l1, l2, l3, l4, l5, l6] [.ref b1, s0] H r ↔ ∃ v, hO H b1 3 6 = some v ∧ Runs xs sl d 74 144 [l0, l1, l2, l3, l4, l5, l6] [v, s0] H r := q_getf (mo_74 141 rfl) mow_74 rfl rfl
theorem r74_144 : Runs xs sl d 74 144 [l0, l1, l2, l3, l4, some (.int i5), l6] [s1, s0] H r ↔ Runs xs sl d 74 146 [l0, l1, l2, l3, l4, some (.int i5), l6] [.int i5, s1, s0] H r := q_iload (mo_74 144 rfl) rfl rfl
theorem r74_146 : Runs xs sl d 74 146 [l0, l1, l2, l3, some (.int i4), l5, l6] [s2, s1, s0] H r ↔ Runs xs sl d 74 148 [l0, l1, l2, l3, some (.int i4), l5, l6] [.int i4, s2, s1, s0] H r := q_iload (mo_74 146 rfl) rfl rfl
theorem r74_148 : Runs xs sl d 74 148 [l0, l1, l2, l3, l4, l5, l6] [s3, s2, s1, s0] H r ↔ Runs xs sl d 74 149 [l0, l1, l2, l3, l4, l5, l6] [.int 1, s3, s2, s1, s0] H r := q_iconst (mo_74 148 rfl) rfl rfl
theorem r74_149 (hc : hC H b0 = some 6) : Runs xs sl (d + 1) 74 149 [l0, l1, l2, l3, l4, l5, l6] [.int u4, .int u3, .int u2, .ref b1, .ref b0] H r ↔ ∃ v H1, Runs xs sl d 126 0 [some (.ref b0), some (.ref b1), some (.int u2), some (.int u3), some (.int u4), none, none, none, none] [] H (v, H1) ∧ Runs xs sl (d + 1) 74 152 [l0, l1, l2, l3, l4, l5, l6] (v.toList ++ []) H1 r := q_callV (M' := 126) (as := [.ref b1, .int u2, .int u3, .int u4]) (rest := []) (mo_74 149 rfl) mow_74 rfl mcs_126 mmx_126 rfl (Nat.le_of_ble_eq_true rfl) (Nat.le_of_ble_eq_true rfl) rfl rfl hc
theorem r74_152 : Runs xs sl d 74 152 [l0, l1, l2, l3, l4, l5, l6] [.int u0] H r ↔ Runs xs sl d 74 153 [l0, l1, l2, l3, l4, l5, l6] [] H r := q_pop (mo_74 152 rfl) rfl rfl
theorem r74_153 : Runs xs sl d 74 153 [some (.ref a0), l1, l2, l3, l4, l5, l6] [] H r ↔ Runs xs sl d 74 154 [some (.ref a0), l1, l2, l3, l4, l5, l6] [.ref a0] H r := q_aload_n (mo_74 153 rfl) rfl rfl
theorem r74_154 : Runs xs sl d 74 154 [l0, some (.int i1), l2, l3, l4, l5, l6] [s0] H r ↔ Runs xs sl d 74 155 [l0, some (.int i1), l2, l3, l4, l5, l6] [.int i1, s0] H r := q_iload_n (mo_74 154 rfl) rfl rfl
theorem r74_155 : Runs xs sl d 74 155 [l0, l1, l2, l3, l4, l5, l6] [s1, s0] H r ↔ Runs xs sl d 74 156 [l0, l1, l2, l3, l4, l5, l6] [.int 1, s1, s0] H r := q_iconst (mo_74 155 rfl) rfl rfl
theorem r74_156 : Runs xs sl d 74 156 [l0, l1, l2, l3, l4, l5, l6] [.int u2, .int u1, s0] H r ↔ Runs xs sl d 74 157 [l0, l1, l2, l3, l4, l5, l6] [.int (u1 + u2), s0] H r := q_iadd (mo_74 156 rfl) rfl
theorem r74_157 : Runs xs sl d 74 157 [l0, l1, some (.int i2), l3, l4, l5, l6] [s1, s0] H r ↔ Runs xs sl d 74 158 [l0, l1, some (.int i2), l3, l4, l5, l6] [.int i2, s1, s0] H r := q_iload_n (mo_74 157 rfl) rfl rfl
theorem r74_158 : Runs xs sl d 74 158 [l0, l1, l2, l3, l4, l5, l6] [s2, s1, s0] H r ↔ Runs xs sl d 74 159 [l0, l1, l2, l3, l4, l5, l6] [.int 1, s2, s1, s0] H r := q_iconst (mo_74 158 rfl) rfl rfl
theorem r74_159 : Runs xs sl d 74 159 [l0, l1, l2, l3, some (.int i4), l5, l6] [s3, s2, s1, s0] H r ↔ Runs xs sl d 74 161 [l0, l1, l2, l3, some (.int i4), l5, l6] [.int i4, s3, s2, s1, s0] H r := q_iload (mo_74 159 rfl) rfl rfl
theorem r74_161 : Runs xs sl d 74 161 [l0, l1, l2, l3, l4, l5, l6] [.int u4, .int u3, s2, s1, s0] H r ↔ Runs xs sl d 74 162 [l0, l1, l2, l3, l4, l5, l6] [.int (u3 <<< (u4 &&& 31)), s2, s1, s0] H r := q_ishl (mo_74 161 rfl) rfl
theorem r74_162 : Runs xs sl d 74 162 [l0, l1, l2, l3, l4, l5, l6] [.int u3, .int u2, s1, s0] H r ↔ Runs xs sl d 74 163 [l0, l1, l2, l3, l4, l5, l6] [.int (u2 - u3), s1, s0] H r := q_isub (mo_74 162 rfl) rfl
theorem r74_163 : Runs xs sl d 74 163 [l0, l1, l2, some (.int i3), l4, l5, l6] [s2, s1, s0] H r ↔ Runs xs sl d 74 164 [l0, l1, l2, some (.int i3), l4, l5, l6] [.int i3, s2, s1, s0] H r := q_iload_n (mo_74 163 rfl) rfl rfl
theorem r74_164 : Runs xs sl d 74 164 [l0, l1, l2, l3, l4, l5, l6] [.int u3, s2, s1, s0] H r ↔ if u3 = 0 then Runs xs sl d 74 176 [l0, l1, l2, l3, l4, l5, l6] [s2, s1, s0] H r else Runs xs sl d 74 167 [l0, l1, l2, l3, l4, l5, l6] [s2, s1, s0] H r := q_if_eq (mo_74 164 rfl) rfl rfl
theorem r74_167 : Runs xs sl d 74 167 [l0, l1, l2, l3, l4, l5, some (.int i6)] [s2, s1, s0] H r ↔ Runs xs sl d 74 169 [l0, l1, l2, l3, l4, l5, some (.int i6)] [.int i6, s2, s1, s0] H r := q_iload (mo_74 167 rfl) rfl rfl
theorem r74_169 : Runs xs sl d 74 169 [l0, l1, l2, l3, l4, l5, l6] [.int u3, s2, s1, s0] H r ↔ if u3 = 0 then Runs xs sl d 74 176 [l0, l1, l2, l3, l4, l5, l6] [s2, s1, s0] H r else Runs xs sl d 74 172 [l0, l1, l2, l3, l4, l5, l6] [s2, s1, s0] H r := q_if_eq (mo_74 169 rfl) rfl rfl
theorem r74_172 : Runs xs sl d 74 172 [l0, l1, l2, l3, l4, l5, l6] [s2, s1, s0] H r ↔ Runs xs sl d 74 173 [l0, l1, l2, l3, l4, l5, l6] [.int 1, s2, s1, s0] H r := q_iconst (mo_74 172 rfl) rfl rfl
theorem r74_173 : Runs xs sl d 74 173 [l0, l1, l2, l3, l4, l5, l6] [s3, s2, s1, s0] H r ↔ Runs xs sl d 74 177 [l0, l1, l2, l3, l4, l5, l6] [s3, s2, s1, s0] H r := q_goto (mo_74 173 rfl) rfl
theorem r74_176 : Runs xs sl d 74 176 [l0, l1, l2, l3, l4, l5, l6] [s2, s1, s0] H r ↔ Runs xs sl d 74 177 [l0, l1, l2, l3, l4, l5, l6] [.int 0, s2, s1, s0] H r := q_iconst (mo_74 176 rfl) rfl rfl
theorem r74_177 (hc : hC H b0 = some 3) : Runs xs sl (d + 1) 74 177 [l0, l1, l2, l3, l4, l5, l6] [.int u3, .int u2, .int u1, .ref b0] H r ↔ ∃ v H1, Runs xs sl d 74 0 [some (.ref b0), some (.int u1), some (.int u2), some (.int u3), none, none, none] [] H (v, H1) ∧ Runs xs sl (d + 1) 74 180 [l0, l1, l2, l3, l4, l5, l6] (v.toList ++ []) H1 r := q_callV (M' := 74) (as := [.int u1, .int u2, .int u3]) (rest := []) (mo_74 177 rfl) mow_74 rfl mcs_74 mmx_74 rfl (Nat.le_of_ble_eq_true rfl) (Nat.le_of_ble_eq_true rfl) rfl rfl hc
theorem r74_180 : Runs xs sl d 74 180 [l0, l1, l2, some (.int i3), some (.int i4), l5, l6] [] H r ↔ Runs xs sl d 74 183 [l0, l1, l2, some (.int i3), some (.int (i4 + 1)), l5, l6] [] H r := q_iinc (mo_74 180 rfl) rfl (Nat.le_of_ble_eq_true rfl) rfl rfl
theorem r74_183 : Runs xs sl d 74 183 [l0, l1, l2, l3, l4, l5, l6] [] H r ↔ Runs xs sl d 74 82 [l0, l1, l2, l3, l4, l5, l6] [] H r := q_goto (mo_74 183 rfl) rfl
theorem r74_186 : Runs xs sl d 74 186 [l0, l1, l2, l3, l4, l5, l6] [] H r ↔ r = (none, H) := q_ret (mo_74 186 rfl) mrt_74
theorem r75_0 : Runs xs sl d 75 0 [l0, some (.int i1), l2] [] H r ↔ Runs xs sl d 75 1 [l0, some (.int i1), l2] [.int i1] H r := q_iload_n (mo_75 0 rfl) rfl rfl
theorem r75_1 : Runs xs sl d 75 1 [l0, l1, l2] [s0] H r ↔ Runs xs sl d 75 2 [l0, l1, l2] [.int 1, s0] H r := q_iconst (mo_75 1 rfl) rfl rfl
theorem r75_2 : Runs xs sl d 75 2 [l0, l1, l2] [.int u1, .int u0] H r ↔ Runs xs sl d 75 3 [l0, l1, l2] [.int (u0 + u1)] H r := q_iadd (mo_75 2 rfl) rfl
theorem r75_3 : Runs xs sl d 75 3 [l0, l1, l2] [s0] H r ↔ Runs xs sl d 75 5 [l0, l1, l2] [.int 6, s0] H r := q_bipush (mo_75 3 rfl) rfl rfl
theorem r75_5 : Runs xs sl d 75 5 [l0, l1, l2] [.int u1, .int u0] H r ↔ Runs xs sl d 75 6 [l0, l1, l2] [.int (u0 * u1)] H r := q_imul (mo_75 5 rfl) rfl
theorem r75_6 : Runs xs sl d 75 6 [l0, some (.int i1), l2] [.int u0] H r ↔ Runs xs sl d 75 7 [l0, some (.int i1), some (.int u0)] [] H r := q_istore_n (mo_75 6 rfl) (Nat.le_of_ble_eq_true rfl) rfl rfl
theorem r75_7 : Runs xs sl d 75 7 [some (.ref a0), l1, l2] [] H r ↔ Runs xs sl d 75 8 [some (.ref a0), l1, l2] [.ref a0] H r := q_aload_n (mo_75 7 rfl) rfl rfl
theorem r75_8 : Runs xs sl d 75 8 [l0, l1, l2] [.ref b0] H r ↔ ∃ v, hO H b0 3 6 = some v ∧ Runs xs sl d 75 11 [l0, l1, l2] [v] H r := q_getf (mo_75 8 rfl) mow_75 rfl rfl
theorem r75_11 : Runs xs sl d 75 11 [l0, some (.int i1), l2] [s0] H r ↔ Runs xs sl d 75 12 [l0, some (.int i1), l2] [.int i1, s0] H r := q_iload_n (mo_75 11 rfl) rfl rfl
theorem r75_12 : Runs xs sl d 75 12 [l0, l1, l2] [s1, s0] H r ↔ Runs xs sl d 75 14 [l0, l1, l2] [.int 6, s1, s0] H r := q_bipush (mo_75 12 rfl) rfl rfl
theorem r75_14 : Runs xs sl d 75 14 [l0, l1, l2] [.int u2, .int u1, s0] H r ↔ Runs xs sl d 75 15 [l0, l1, l2] [.int (u1 * u2), s0] H r := q_imul (mo_75 14 rfl) rfl
theorem r75_15 : Runs xs sl d 75 15 [some (.ref a0), l1, l2] [s1, s0] H r ↔ Runs xs sl d 75 16 [some (.ref a0), l1, l2] [.ref a0, s1, s0] H r := q_aload_n (mo_75 15 rfl) rfl rfl
theorem r75_16 : Runs xs sl d 75 16 [l0, l1, l2] [.ref b2, s1, s0] H r ↔ ∃ v, hO H b2 3 6 = some v ∧ Runs xs sl d 75 19 [l0, l1, l2] [v, s1, s0] H r := q_getf (mo_75 16 rfl) mow_75 rfl rfl
theorem r75_19 : Runs xs sl d 75 19 [l0, l1, some (.int i2)] [s2, s1, s0] H r ↔ Runs xs sl d 75 20 [l0, l1, some (.int i2)] [.int i2, s2, s1, s0] H r := q_iload_n (mo_75 19 rfl) rfl rfl
theorem r75_20 : Runs xs sl d 75 20 [l0, l1, l2] [s3, s2, s1, s0] H r ↔ Runs xs sl d 75 22 [l0, l1, l2] [.int 6, s3, s2, s1, s0] H r := q_bipush (mo_75 20 rfl) rfl rfl
theorem r75_22 : Runs xs sl (d + 1) 75 22 [l0, l1, l2] [.int u4, .int u3, .ref b2, .int u1, .ref b0] H r ↔ ∃ H1, hCp H b0 b2 u1 u3 u4 = some H1 ∧ Runs xs sl (d + 1) 75 25 [l0, l1, l2] [] H1 r := q_copy (mo_75 22 rfl) mow_75 rfl (Nat.le_of_ble_eq_true rfl) rfl
theorem r75_25 : Runs xs sl d 75 25 [l0, l1, some (.int i2)] [] H r ↔ Runs xs sl d 75 26 [l0, l1, some (.int i2)] [.int i2] H r := q_iload_n (mo_75 25 rfl) rfl rfl
theorem r75_26 : Runs xs sl d 75 26 [l0, l1, l2] [.int u0] H r ↔ r = (some (.int u0), H) := q_iret (mo_75 26 rfl) mrt_75
theorem r76_0 : Runs xs sl d 76 0 [some (.ref a0), l1, l2, l3] [] H r ↔ Runs xs sl d 76 1 [some (.ref a0), l1, l2, l3] [.ref a0] H r := q_aload_n (mo_76 0 rfl) rfl rfl
theorem r76_1 : Runs xs sl d 76 1 [l0, some (.int i1), l2, l3] [s0] H r ↔ Runs xs sl d 76 2 [l0, some (.int i1), l2, l3] [.int i1, s0] H r := q_iload_n (mo_76 1 rfl) rfl rfl
theorem r76_2 : Runs xs sl d 76 2 [l0, l1, some (.int i2), l3] [s1, s0] H r ↔ Runs xs sl d 76 3 [l0, l1, some (.int i2), l3] [.int i2, s1, s0] H r := q_iload_n (mo_76 2 rfl) rfl rfl
theorem r76_3 (hc : hC H b0 = some 3) : Runs xs sl (d + 1) 76 3 [l0, l1, l2, l3] [.int u2, .int u1, .ref b0] H r ↔ ∃ v H1, Runs xs sl d 73 0 [some (.ref b0), some (.int u1), some (.int u2)] [] H (v, H1) ∧ Runs xs sl (d + 1) 76 6 [l0, l1, l2, l3] (v.toList ++ []) H1 r := q_callV (M' := 73) (as := [.int u1, .int u2]) (rest := []) (mo_76 3 rfl) mow_76 rfl mcs_73 mmx_73 rfl (Nat.le_of_ble_eq_true rfl) (Nat.le_of_ble_eq_true rfl) rfl rfl hc
theorem r76_6 : Runs xs sl d 76 6 [some (.ref a0), l1, l2, l3] [] H r ↔ Runs xs sl d 76 7 [some (.ref a0), l1, l2, l3] [.ref a0] H r := q_aload_n (mo_76 6 rfl) rfl rfl
theorem r76_7 (hc : hC H b0 = some 3) : Runs xs sl (d + 1) 76 7 [l0, l1, l2, l3] [.ref b0] H r ↔ ∃ v H1, Runs xs sl d 77 0 [some (.ref b0), none] [] H (v, H1) ∧ Runs xs sl (d + 1) 76 10 [l0, l1, l2, l3] (v.toList ++ []) H1 r := q_callV (M' := 77) (as := []) (rest := []) (mo_76 7 rfl) mow_76 rfl mcs_77 mmx_77 rfl (Nat.le_of_ble_eq_true rfl) (Nat.le_of_ble_eq_true rfl) rfl rfl hc
theorem r76_10 : Runs xs sl d 76 10 [some (.ref a0), l1, l2, l3] [] H r ↔ Runs xs sl d 76 11 [some (.ref a0), l1, l2, l3] [.ref a0] H r := q_aload_n (mo_76 10 rfl) rfl rfl
theorem r76_11 : Runs xs sl d 76 11 [l0, l1, l2, l3] [.ref b0] H r ↔ ∃ v, hO H b0 3 7 = some v ∧ Runs xs sl d 76 14 [l0, l1, l2, l3] [v] H r := q_getf (mo_76 11 rfl) mow_76 rfl rfl
theorem r76_14 : Runs xs sl d 76 14 [l0, l1, l2, l3] [s0] H r ↔ Runs xs sl d 76 15 [l0, l1, l2, l3] [.int 0, s0] H r := q_iconst (mo_76 14 rfl) rfl rfl
theorem r76_15 : Runs xs sl (d + 1) 76 15 [l0, l1, l2, l3] [.int u1, .ref b0] H r ↔ ∃ v H1, Runs xs sl d 291 0 [some (.ref b0), some (.int u1), none, none] [] H (v, H1) ∧ Runs xs sl (d + 1) 76 18 [l0, l1, l2, l3] (v.toList ++ []) H1 r := q_callS (M' := 291) (as := [.ref b0, .int u1]) (rest := []) (mo_76 15 rfl) mow_76 rfl mmx_291 rfl (Nat.le_of_ble_eq_true rfl) (Nat.le_of_ble_eq_true rfl) rfl rfl
theorem r76_18 : Runs xs sl d 76 18 [some (.ref a0), l1, l2, l3] [] H r ↔ Runs xs sl d 76 19 [some (.ref a0), l1, l2, l3] [.ref a0] H r := q_aload_n (mo_76 18 rfl) rfl rfl
theorem r76_19 : Runs xs sl d 76 19 [l0, l1, l2, l3] [s0] H r ↔ Runs xs sl d 76 22 [l0, l1, l2, l3] [.int 256, s0] H r := q_sipush (mo_76 19 rfl) rfl rfl
theorem r76_22 : Runs xs sl d 76 22 [l0, l1, l2, l3] [.int u1, .ref b0] H r ↔ ∃ H1, hOw H b0 3 12 (.int u1) = some H1 ∧ Runs xs sl d 76 25 [l0, l1, l2, l3] [] H1 r := q_putf (mo_76 22 rfl) mow_76 rfl rfl (by decide +kernel) rfl
theorem r76_25 : Runs xs sl d 76 25 [l0, l1, l2, l3] [] H r ↔ Runs xs sl d 76 26 [l0, l1, l2, l3] [.int 0] H r := q_iconst (mo_76 25 rfl) rfl rfl
theorem r76_26 : Runs xs sl d 76 26 [l0, l1, some (.int i2), l3] [.int u0] H r ↔ Runs xs sl d 76 27 [l0, l1, some (.int i2), some (.int u0)] [] H r := q_istore_n (mo_76 26 rfl) (Nat.le_of_ble_eq_true rfl) rfl rfl
theorem r76_27 : Runs xs sl d 76 27 [l0, l1, l2, some (.int i3)] [] H r ↔ Runs xs sl d 76 28 [l0, l1, l2, some (.int i3)] [.int i3] H r := q_iload_n (mo_76 27 rfl) rfl rfl
theorem r76_28 : Runs xs sl d 76 28 [some (.ref a0), l1, l2, l3] [s0] H r ↔ Runs xs sl d 76 29 [some (.ref a0), l1, l2, l3] [.ref a0, s0] H r := q_aload_n (mo_76 28 rfl) rfl rfl
theorem r76_29 : Runs xs sl d 76 29 [l0, l1, l2, l3] [.ref b1, s0] H r ↔ ∃ v, hO H b1 3 3 = some v ∧ Runs xs sl d 76 32 [l0, l1, l2, l3] [v, s0] H r := q_getf (mo_76 29 rfl) mow_76 rfl rfl
theorem r76_32 : Runs xs sl d 76 32 [l0, l1, l2, l3] [.ref b1, s0] H r ↔ ∃ v, hO H b1 6 1 = some v ∧ Runs xs sl d 76 35 [l0, l1, l2, l3] [v, s0] H r := q_getf (mo_76 32 rfl) mow_76 rfl rfl
theorem r76_35 : Runs xs sl d 76 35 [l0, l1, l2, l3] [.int u1, .int u0] H r ↔ if u1 < u0 then Runs xs sl d 76 65 [l0, l1, l2, l3] [] H r else Runs xs sl d 76 38 [l0, l1, l2, l3] [] H r := q_icmp_gt (mo_76 35 rfl) rfl rfl
theorem r76_38 : Runs xs sl d 76 38 [some (.ref a0), l1, l2, l3] [] H r ↔ Runs xs sl d 76 39 [some (.ref a0), l1, l2, l3] [.ref a0] H r := q_aload_n (mo_76 38 rfl) rfl rfl
theorem r76_39 : Runs xs sl d 76 39 [l0, l1, l2, l3] [.ref b0] H r ↔ ∃ v, hO H b0 3 12 = some v ∧ Runs xs sl d 76 42 [l0, l1, l2, l3] [v] H r := q_getf (mo_76 39 rfl) mow_76 rfl rfl
theorem r76_42 : Runs xs sl d 76 42 [l0, l1, l2, l3] [s0] H r ↔ Runs xs sl d 76 45 [l0, l1, l2, l3] [.int 256, s0] H r := q_sipush (mo_76 42 rfl) rfl rfl
theorem r76_45 : Runs xs sl d 76 45 [l0, l1, l2, l3] [.int u1, .int u0] H r ↔ if ¬ u0 = u1 then Runs xs sl d 76 65 [l0, l1, l2, l3] [] H r else Runs xs sl d 76 48 [l0, l1, l2, l3] [] H r := q_icmp_ne (mo_76 45 rfl) rfl rfl
theorem r76_48 : Runs xs sl d 76 48 [some (.ref a0), l1, l2, l3] [] H r ↔ Runs xs sl d 76 49 [some (.ref a0), l1, l2, l3] [.ref a0] H r := q_aload_n (mo_76 48 rfl) rfl rfl
theorem r76_49 : Runs xs sl d 76 49 [l0, l1, l2, some (.int i3)] [s0] H r ↔ Runs xs sl d 76 50 [l0, l1, l2, some (.int i3)] [.int i3, s0] H r := q_iload_n (mo_76 49 rfl) rfl rfl
theorem r76_50 : Runs xs sl d 76 50 [l0, l1, l2, l3] [.int u1, .ref b0] H r ↔ ∃ H1, hOw H b0 3 10 (.int u1) = some H1 ∧ Runs xs sl d 76 53 [l0, l1, l2, l3] [] H1 r := q_putf (mo_76 50 rfl) mow_76 rfl rfl (by decide +kernel) rfl
theorem r76_53 : Runs xs sl d 76 53 [some (.ref a0), l1, l2, l3] [] H r ↔ Runs xs sl d 76 54 [some (.ref a0), l1, l2, l3] [.ref a0] H r := q_aload_n (mo_76 53 rfl) rfl rfl
theorem r76_54 : Runs xs sl d 76 54 [l0, l1, l2, l3] [s0] H r ↔ Runs xs sl d 76 55 [l0, l1, l2, l3] [.int 0, s0] H r := q_iconst (mo_76 54 rfl) rfl rfl
theorem r76_55 : Runs xs sl d 76 55 [l0, l1, l2, l3] [s1, s0] H r ↔ Runs xs sl d 76 56 [l0, l1, l2, l3] [.int 0, s1, s0] H r := q_iconst (mo_76 55 rfl) rfl rfl
theorem r76_56 (hc : hC H b0 = some 3) : Runs xs sl (d + 1) 76 56 [l0, l1, l2, l3] [.int u2, .int u1, .ref b0] H r ↔ ∃ v H1, Runs xs sl d 78 0 [some (.ref b0), some (.int u1), some (.int u2), none, none] [] H (v, H1) ∧ Runs xs sl (d + 1) 76 59 [l0, l1, l2, l3] (v.toList ++ []) H1 r := q_callV (M' := 78) (as := [.int u1, .int u2]) (rest := []) (mo_76 56 rfl) mow_76 rfl mcs_78 mmx_78 rfl (Nat.le_of_ble_eq_true rfl) (Nat.le_of_ble_eq_true rfl) rfl rfl hc
theorem r76_59 : Runs xs sl d 76 59 [l0, l1, some (.int i2), some (.int i3)] [] H r ↔ Runs xs sl d 76 62 [l0, l1, some (.int i2), some (.int (i3 + 1))] [] H r := q_iinc (mo_76 59 rfl) rfl (Nat.le_of_ble_eq_true rfl) rfl rfl
theorem r76_62 : Runs xs sl d 76 62 [l0, l1, l2, l3] [] H r ↔ Runs xs sl d 76 27 [l0, l1, l2, l3] [] H r := q_goto (mo_76 62 rfl) rfl
theorem r76_65 : Runs xs sl d 76 65 [some (.ref a0), l1, l2, l3] [] H r ↔ Runs xs sl d 76 66 [some (.ref a0), l1, l2, l3] [.ref a0] H r := q_aload_n (mo_76 65 rfl) rfl rfl
theorem r76_66 : Runs xs sl d 76 66 [l0, l1, l2, l3] [.ref b0] H r ↔ ∃ v, hO H b0 3 12 = some v ∧ Runs xs sl d 76 69 [l0, l1, l2, l3] [v] H r := q_getf (mo_76 66 rfl) mow_76 rfl rfl
theorem r76_69 : Runs xs sl d 76 69 [l0, l1, l2, l3] [s0] H r ↔ Runs xs sl d 76 72 [l0, l1, l2, l3] [.int 256, s0] H r := q_sipush (mo_76 69 rfl) rfl rfl
theorem r76_72 : Runs xs sl d 76 72 [l0, l1, l2, l3] [.int u1, .int u0] H r ↔ if ¬ u0 = u1 then Runs xs sl d 76 79 [l0, l1, l2, l3] [] H r else Runs xs sl d 76 75 [l0, l1, l2, l3] [] H r := q_icmp_ne (mo_76 72 rfl) rfl rfl
theorem r76_75 : Runs xs sl d 76 75 [l0, l1, l2, l3] [] H r ↔ Runs xs sl d 76 76 [l0, l1, l2, l3] [.int (-1)] H r := q_iconst (mo_76 75 rfl) rfl rfl
theorem r76_76 : Runs xs sl d 76 76 [l0, l1, l2, l3] [s0] H r ↔ Runs xs sl d 76 83 [l0, l1, l2, l3] [s0] H r := q_goto (mo_76 76 rfl) rfl
theorem r76_79 : Runs xs sl d 76 79 [some (.ref a0), l1, l2, l3] [] H r ↔ Runs xs sl d 76 80 [some (.ref a0), l1, l2, l3] [.ref a0] H r := q_aload_n (mo_76 79 rfl) rfl rfl
theorem r76_80 : Runs xs sl d 76 80 [l0, l1, l2, l3] [.ref b0] H r ↔ ∃ v, hO H b0 3 12 = some v ∧ Runs xs sl d 76 83 [l0, l1, l2, l3] [v] H r := q_getf (mo_76 80 rfl) mow_76 rfl rfl
theorem r76_83 : Runs xs sl d 76 83 [l0, l1, l2, l3] [.int u0] H r ↔ r = (some (.int u0), H) := q_iret (mo_76 83 rfl) mrt_76
theorem r77_0 : Runs xs sl d 77 0 [some (.ref a0), l1] [] H r ↔ Runs xs sl d 77 1 [some (.ref a0), l1] [.ref a0] H r := q_aload_n (mo_77 0 rfl) rfl rfl
theorem r77_1 : Runs xs sl d 77 1 [l0, l1] [s0] H r ↔ Runs xs sl d 77 2 [l0, l1] [.int 0, s0] H r := q_iconst (mo_77 1 rfl) rfl rfl
theorem r77_2 : Runs xs sl d 77 2 [l0, l1] [.int u1, .ref b0] H r ↔ ∃ H1, hOw H b0 3 11 (.int u1) = some H1 ∧ Runs xs sl d 77 5 [l0, l1] [] H1 r := q_putf (mo_77 2 rfl) mow_77 rfl rfl (by decide +kernel) rfl
theorem r77_5 : Runs xs sl d 77 5 [l0, l1] [] H r ↔ Runs xs sl d 77 6 [l0, l1] [.int 0] H r := q_iconst (mo_77 5 rfl) rfl rfl
theorem r77_6 : Runs xs sl d 77 6 [some (.ref a0), l1] [.int u0] H r ↔ Runs xs sl d 77 7 [some (.ref a0), some (.int u0)] [] H r := q_istore_n (mo_77 6 rfl) (Nat.le_of_ble_eq_true rfl) rfl rfl
theorem r77_6_1 : Runs xs sl d 77 6 [some .null, l1] [.int u0] H r ↔ Runs xs sl d 77 7 [some .null, some (.int u0)] [] H r := q_istore_n (mo_77 6 rfl) (Nat.le_of_ble_eq_true rfl) rfl rfl
theorem r77_7 : Runs xs sl d 77 7 [l0, some (.int i1)] [] H r ↔ Runs xs sl d 77 8 [l0, some (.int i1)] [.int i1] H r := q_iload_n (mo_77 7 rfl) rfl rfl
theorem r77_8 : Runs xs sl d 77 8 [some (.ref a0), l1] [s0] H r ↔ Runs xs sl d 77 9 [some (.ref a0), l1] [.ref a0, s0] H r := q_aload_n (mo_77 8 rfl) rfl rfl
theorem r77_9 : Runs xs sl d 77 9 [l0, l1] [.ref b1, s0] H r ↔ ∃ v, hO H b1 3 3 = some v ∧ Runs xs sl d 77 12 [l0, l1] [v, s0] H r := q_getf (mo_77 9 rfl) mow_77 rfl rfl
theorem r77_12 : Runs xs sl d 77 12 [l0, l1] [.ref b1, s0] H r ↔ ∃ v, hO H b1 6 1 = some v ∧ Runs xs sl d 77 15 [l0, l1] [v, s0] H r := q_getf (mo_77 12 rfl) mow_77 rfl rfl
theorem r77_15 : Runs xs sl d 77 15 [l0, l1] [.int u1, .int u0] H r ↔ if u1 ≤ u0 then Runs xs sl d 77 56 [l0, l1] [] H r else Runs xs sl d 77 18 [l0, l1] [] H r := q_icmp_ge (mo_77 15 rfl) rfl rfl
theorem r77_18 : Runs xs sl d 77 18 [some (.ref a0), l1] [] H r ↔ Runs xs sl d 77 19 [some (.ref a0), l1] [.ref a0] H r := q_aload_n (mo_77 18 rfl) rfl rfl
theorem r77_19 : Runs xs sl d 77 19 [l0, l1] [.ref b0] H r ↔ ∃ v, hO H b0 3 3 = some v ∧ Runs xs sl d 77 22 [l0, l1] [v] H r := q_getf (mo_77 19 rfl) mow_77 rfl rfl
theorem r77_22 : Runs xs sl d 77 22 [l0, l1] [.ref b0] H r ↔ ∃ v, hO H b0 6 3 = some v ∧ Runs xs sl d 77 25 [l0, l1] [v] H r := q_getf (mo_77 22 rfl) mow_77 rfl rfl
theorem r77_25 : Runs xs sl d 77 25 [l0, some (.int i1)] [s0] H r ↔ Runs xs sl d 77 26 [l0, some (.int i1)] [.int i1, s0] H r := q_iload_n (mo_77 25 rfl) rfl rfl
theorem r77_26 : Runs xs sl d 77 26 [l0, l1] [s1, s0] H r ↔ Runs xs sl d 77 28 [l0, l1] [.int 6, s1, s0] H r := q_bipush (mo_77 26 rfl) rfl rfl
theorem r77_28 : Runs xs sl d 77 28 [l0, l1] [.int u2, .int u1, s0] H r ↔ Runs xs sl d 77 29 [l0, l1] [.int (u1 * u2), s0] H r := q_imul (mo_77 28 rfl) rfl
theorem r77_29 : Runs xs sl d 77 29 [some (.ref a0), l1] [s1, s0] H r ↔ Runs xs sl d 77 30 [some (.ref a0), l1] [.ref a0, s1, s0] H r := q_aload_n (mo_77 29 rfl) rfl rfl
theorem r77_30 : Runs xs sl d 77 30 [l0, l1] [.ref b2, s1, s0] H r ↔ ∃ v, hO H b2 3 8 = some v ∧ Runs xs sl d 77 33 [l0, l1] [v, s1, s0] H r := q_getf (mo_77 30 rfl) mow_77 rfl rfl
theorem r77_33 : Runs xs sl d 77 33 [l0, l1] [.int u2, .int u1, s0] H r ↔ Runs xs sl d 77 34 [l0, l1] [.int (u1 + u2), s0] H r := q_iadd (mo_77 33 rfl) rfl
theorem r77_34 : Runs xs sl d 77 34 [l0, l1] [.int u1, .ref b0] H r ↔ ∃ v, hA H b0 0 u1 = some v ∧ Runs xs sl d 77 35 [l0, l1] [.int v] H r := run_iald (mo_77 34 rfl) rfl
theorem r77_35 : Runs xs sl d 77 35 [l0, l1] [.int u0] H r ↔ if u0 ≤ 0 then Runs xs sl d 77 50 [l0, l1] [] H r else Runs xs sl d 77 38 [l0, l1] [] H r := q_if_le (mo_77 35 rfl) rfl rfl
theorem r77_38 : Runs xs sl d 77 38 [some (.ref a0), l1] [] H r ↔ Runs xs sl d 77 39 [some (.ref a0), l1] [.ref a0] H r := q_aload_n (mo_77 38 rfl) rfl rfl
theorem r77_39 : Runs xs sl d 77 39 [l0, l1] [.ref b0] H r ↔ Runs xs sl d 77 40 [l0, l1] [.ref b0, .ref b0] H r := q_dup (mo_77 39 rfl) rfl rfl
theorem r77_40 : Runs xs sl d 77 40 [l0, l1] [.ref b1, s0] H r ↔ ∃ v, hO H b1 3 11 = some v ∧ Runs xs sl d 77 43 [l0, l1] [v, s0] H r := q_getf (mo_77 40 rfl) mow_77 rfl rfl
theorem r77_43 : Runs xs sl d 77 43 [l0, l1] [s1, s0] H r ↔ Runs xs sl d 77 44 [l0, l1] [.int 1, s1, s0] H r := q_iconst (mo_77 43 rfl) rfl rfl
theorem r77_44 : Runs xs sl d 77 44 [l0, some (.int i1)] [s2, s1, s0] H r ↔ Runs xs sl d 77 45 [l0, some (.int i1)] [.int i1, s2, s1, s0] H r := q_iload_n (mo_77 44 rfl) rfl rfl
theorem r77_45 : Runs xs sl d 77 45 [l0, l1] [.int u3, .int u2, s1, s0] H r ↔ Runs xs sl d 77 46 [l0, l1] [.int (u2 <<< (u3 &&& 31)), s1, s0] H r := q_ishl (mo_77 45 rfl) rfl
theorem r77_46 : Runs xs sl d 77 46 [l0, l1] [.int u2, .int u1, s0] H r ↔ Runs xs sl d 77 47 [l0, l1] [.int (u1 ||| u2), s0] H r := q_ior (mo_77 46 rfl) rfl
theorem r77_47 : Runs xs sl d 77 47 [l0, l1] [.int u1, .ref b0] H r ↔ ∃ H1, hOw H b0 3 11 (.int u1) = some H1 ∧ Runs xs sl d 77 50 [l0, l1] [] H1 r := q_putf (mo_77 47 rfl) mow_77 rfl rfl (by decide +kernel) rfl
theorem r77_50 : Runs xs sl d 77 50 [some (.ref a0), some (.int i1)] [] H r ↔ Runs xs sl d 77 53 [some (.ref a0), some (.int (i1 + 1))] [] H r := q_iinc (mo_77 50 rfl) rfl (Nat.le_of_ble_eq_true rfl) rfl rfl
theorem r77_50_1 : Runs xs sl d 77 50 [some .null, some (.int i1)] [] H r ↔ Runs xs sl d 77 53 [some .null, some (.int (i1 + 1))] [] H r := q_iinc (mo_77 50 rfl) rfl (Nat.le_of_ble_eq_true rfl) rfl rfl
theorem r77_53 : Runs xs sl d 77 53 [l0, l1] [] H r ↔ Runs xs sl d 77 7 [l0, l1] [] H r := q_goto (mo_77 53 rfl) rfl
theorem r77_56 : Runs xs sl d 77 56 [l0, l1] [] H r ↔ r = (none, H) := q_ret (mo_77 56 rfl) mrt_77
theorem r78_0 : Runs xs sl d 78 0 [some (.ref a0), l1, l2, l3, l4] [] H r ↔ Runs xs sl d 78 1 [some (.ref a0), l1, l2, l3, l4] [.ref a0] H r := q_aload_n (mo_78 0 rfl) rfl rfl
theorem r78_1 : Runs xs sl d 78 1 [l0, l1, l2, l3, l4] [.ref b0] H r ↔ ∃ v, hO H b0 3 6 = some v ∧ Runs xs sl d 78 4 [l0, l1, l2, l3, l4] [v] H r := q_getf (mo_78 1 rfl) mow_78 rfl rfl
theorem r78_4 : Runs xs sl d 78 4 [l0, some (.int i1), l2, l3, l4] [s0] H r ↔ Runs xs sl d 78 5 [l0, some (.int i1), l2, l3, l4] [.int i1, s0] H r := q_iload_n (mo_78 4 rfl) rfl rfl
theorem r78_5 : Runs xs sl d 78 5 [l0, l1, l2, l3, l4] [s1, s0] H r ↔ Runs xs sl d 78 7 [l0, l1, l2, l3, l4] [.int 6, s1, s0] H r := q_bipush (mo_78 5 rfl) rfl rfl
theorem r78_7 : Runs xs sl d 78 7 [l0, l1, l2, l3, l4] [.int u2, .int u1, s0] H r ↔ Runs xs sl d 78 8 [l0, l1, l2, l3, l4] [.int (u1 * u2), s0] H r := q_imul (mo_78 7 rfl) rfl
theorem r78_8 : Runs xs sl d 78 8 [some (.ref a0), l1, l2, l3, l4] [s1, s0] H r ↔ Runs xs sl d 78 9 [some (.ref a0), l1, l2, l3, l4] [.ref a0, s1, s0] H r := q_aload_n (mo_78 8 rfl) rfl rfl
theorem r78_9 : Runs xs sl d 78 9 [l0, l1, l2, l3, l4] [.ref b2, s1, s0] H r ↔ ∃ v, hO H b2 3 8 = some v ∧ Runs xs sl d 78 12 [l0, l1, l2, l3, l4] [v, s1, s0] H r := q_getf (mo_78 9 rfl) mow_78 rfl rfl
theorem r78_12 : Runs xs sl d 78 12 [l0, l1, l2, l3, l4] [.int u2, .int u1, s0] H r ↔ Runs xs sl d 78 13 [l0, l1, l2, l3, l4] [.int (u1 + u2), s0] H r := q_iadd (mo_78 12 rfl) rfl
theorem r78_13 : Runs xs sl d 78 13 [l0, l1, l2, l3, l4] [.int u1, .ref b0] H r ↔ ∃ v, hA H b0 0 u1 = some v ∧ Runs xs sl d 78 14 [l0, l1, l2, l3, l4] [.int v] H r := run_iald (mo_78 13 rfl) rfl
theorem r78_14 : Runs xs sl d 78 14 [l0, l1, some (.int i2), l3, l4] [.int u0] H r ↔ Runs xs sl d 78 15 [l0, l1, some (.int i2), some (.int u0), l4] [] H r := q_istore_n (mo_78 14 rfl) (Nat.le_of_ble_eq_true rfl) rfl rfl
theorem r78_15 : Runs xs sl d 78 15 [l0, l1, l2, some (.int i3), l4] [] H r ↔ Runs xs sl d 78 16 [l0, l1, l2, some (.int i3), l4] [.int i3] H r := q_iload_n (mo_78 15 rfl) rfl rfl
theorem r78_16 : Runs xs sl d 78 16 [l0, l1, l2, l3, l4] [.int u0] H r ↔ if u0 ≤ 0 then Runs xs sl d 78 32 [l0, l1, l2, l3, l4] [] H r else Runs xs sl d 78 19 [l0, l1, l2, l3, l4] [] H r := q_if_le (mo_78 16 rfl) rfl rfl
theorem r78_19 : Runs xs sl d 78 19 [some (.ref a0), l1, l2, l3, l4] [] H r ↔ Runs xs sl d 78 20 [some (.ref a0), l1, l2, l3, l4] [.ref a0] H r := q_aload_n (mo_78 19 rfl) rfl rfl
theorem r78_20 : Runs xs sl d 78 20 [some (.ref a0), l1, l2, l3, l4] [s0] H r ↔ Runs xs sl d 78 21 [some (.ref a0), l1, l2, l3, l4] [.ref a0, s0] H r := q_aload_n (mo_78 20 rfl) rfl rfl
theorem r78_21 : Runs xs sl d 78 21 [l0, l1, l2, l3, l4] [.ref b1, s0] H r ↔ ∃ v, hO H b1 3 12 = some v ∧ Runs xs sl d 78 24 [l0, l1, l2, l3, l4] [v, s0] H r := q_getf (mo_78 21 rfl) mow_78 rfl rfl
theorem r78_24 : Runs xs sl d 78 24 [l0, l1, some (.int i2), l3, l4] [s1, s0] H r ↔ Runs xs sl d 78 25 [l0, l1, some (.int i2), l3, l4] [.int i2, s1, s0] H r := q_iload_n (mo_78 24 rfl) rfl rfl
theorem r78_25 : Runs xs sl (d + 1) 78 25 [l0, l1, l2, l3, l4] [.int u2, .int u1, .ref b0] H r ↔ Runs xs sl (d + 1) 78 28 [l0, l1, l2, l3, l4] [.int (if u2 < u1 then u2 else u1), .ref b0] H r := q_mmin (mo_78 25 rfl) mow_78 rfl (Nat.le_of_ble_eq_true rfl) rfl
theorem r78_28 : Runs xs sl d 78 28 [l0, l1, l2, l3, l4] [.int u1, .ref b0] H r ↔ ∃ H1, hOw H b0 3 12 (.int u1) = some H1 ∧ Runs xs sl d 78 31 [l0, l1, l2, l3, l4] [] H1 r := q_putf (mo_78 28 rfl) mow_78 rfl rfl (by decide +kernel) rfl
theorem r78_31 : Runs xs sl d 78 31 [l0, l1, l2, l3, l4] [] H r ↔ r = (none, H) := q_ret (mo_78 31 rfl) mrt_78
theorem r78_32 : Runs xs sl d 78 32 [l0, some (.int i1), l2, l3, l4] [] H r ↔ Runs xs sl d 78 33 [l0, some (.int i1), l2, l3, l4] [.int i1] H r := q_iload_n (mo_78 32 rfl) rfl rfl
theorem r78_33 : Runs xs sl d 78 33 [l0, l1, l2, l3, l4] [s0] H r ↔ Runs xs sl d 78 35 [l0, l1, l2, l3, l4] [.int 8, s0] H r := q_bipush (mo_78 33 rfl) rfl rfl
theorem r78_35 : Runs xs sl d 78 35 [l0, l1, l2, l3, l4] [.int u1, .int u0] H r ↔ if u1 ≤ u0 then Runs xs sl d 78 59 [l0, l1, l2, l3, l4] [] H r else Runs xs sl d 78 38 [l0, l1, l2, l3, l4] [] H r := q_icmp_ge (mo_78 35 rfl) rfl rfl
theorem r78_38 : Runs xs sl d 78 38 [some (.ref a0), l1, l2, l3, l4] [] H r ↔ Runs xs sl d 78 39 [some (.ref a0), l1, l2, l3, l4] [.ref a0] H r := q_aload_n (mo_78 38 rfl) rfl rfl
theorem r78_39 : Runs xs sl d 78 39 [l0, some (.int i1), l2, l3, l4] [s0] H r ↔ Runs xs sl d 78 40 [l0, some (.int i1), l2, l3, l4] [.int i1, s0] H r := q_iload_n (mo_78 39 rfl) rfl rfl
theorem r78_40 : Runs xs sl d 78 40 [l0, l1, some (.int i2), l3, l4] [s1, s0] H r ↔ Runs xs sl d 78 41 [l0, l1, some (.int i2), l3, l4] [.int i2, s1, s0] H r := q_iload_n (mo_78 40 rfl) rfl rfl
theorem r78_41 : Runs xs sl d 78 41 [l0, l1, l2, l3, l4] [s2, s1, s0] H r ↔ Runs xs sl d 78 42 [l0, l1, l2, l3, l4] [.int 1, s2, s1, s0] H r := q_iconst (mo_78 41 rfl) rfl rfl
theorem r78_42 : Runs xs sl d 78 42 [l0, l1, l2, some (.int i3), l4] [s3, s2, s1, s0] H r ↔ Runs xs sl d 78 43 [l0, l1, l2, some (.int i3), l4] [.int i3, s3, s2, s1, s0] H r := q_iload_n (mo_78 42 rfl) rfl rfl
theorem r78_43 : Runs xs sl d 78 43 [l0, l1, l2, l3, l4] [.int u4, .int u3, s2, s1, s0] H r ↔ Runs xs sl d 78 44 [l0, l1, l2, l3, l4] [.int (u3 - u4), s2, s1, s0] H r := q_isub (mo_78 43 rfl) rfl
theorem r78_44 (hc : hC H b0 = some 3) : Runs xs sl (d + 1) 78 44 [l0, l1, l2, l3, l4] [.int u3, .int u2, .int u1, .ref b0] H r ↔ ∃ v H1, Runs xs sl d 79 0 [some (.ref b0), some (.int u1), some (.int u2), some (.int u3)] [] H (v, H1) ∧ Runs xs sl (d + 1) 78 47 [l0, l1, l2, l3, l4] (v.toList ++ []) H1 r := q_callV (M' := 79) (as := [.int u1, .int u2, .int u3]) (rest := []) (mo_78 44 rfl) mow_78 rfl mcs_79 mmx_79 rfl (Nat.le_of_ble_eq_true rfl) (Nat.le_of_ble_eq_true rfl) rfl rfl hc
theorem r78_47 : Runs xs sl d 78 47 [l0, l1, l2, l3, l4] [.int u0] H r ↔ if ¬ u0 = 0 then Runs xs sl d 78 59 [l0, l1, l2, l3, l4] [] H r else Runs xs sl d 78 50 [l0, l1, l2, l3, l4] [] H r := q_if_ne (mo_78 47 rfl) rfl rfl
theorem r78_50 : Runs xs sl d 78 50 [some (.ref a0), l1, l2, l3, l4] [] H r ↔ Runs xs sl d 78 51 [some (.ref a0), l1, l2, l3, l4] [.ref a0] H r := q_aload_n (mo_78 50 rfl) rfl rfl
theorem r78_51 : Runs xs sl d 78 51 [l0, some (.int i1), l2, l3, l4] [s0] H r ↔ Runs xs sl d 78 52 [l0, some (.int i1), l2, l3, l4] [.int i1, s0] H r := q_iload_n (mo_78 51 rfl) rfl rfl
theorem r78_52 : Runs xs sl d 78 52 [l0, l1, some (.int i2), l3, l4] [s1, s0] H r ↔ Runs xs sl d 78 53 [l0, l1, some (.int i2), l3, l4] [.int i2, s1, s0] H r := q_iload_n (mo_78 52 rfl) rfl rfl
theorem r78_53 (hc : hC H b0 = some 3) : Runs xs sl (d + 1) 78 53 [l0, l1, l2, l3, l4] [.int u2, .int u1, .ref b0] H r ↔ ∃ v H1, Runs xs sl d 80 0 [some (.ref b0), some (.int u1), some (.int u2), none, none] [] H (v, H1) ∧ Runs xs sl (d + 1) 78 56 [l0, l1, l2, l3, l4] (v.toList ++ []) H1 r := q_callV (M' := 80) (as := [.int u1, .int u2]) (rest := []) (mo_78 53 rfl) mow_78 rfl mcs_80 mmx_80 rfl (Nat.le_of_ble_eq_true rfl) (Nat.le_of_ble_eq_true rfl) rfl rfl hc
theorem r78_56 : Runs xs sl d 78 56 [l0, l1, l2, l3, l4] [.int u0] H r ↔ if u0 = 0 then Runs xs sl d 78 60 [l0, l1, l2, l3, l4] [] H r else Runs xs sl d 78 59 [l0, l1, l2, l3, l4] [] H r := q_if_eq (mo_78 56 rfl) rfl rfl
theorem r78_59 : Runs xs sl d 78 59 [l0, l1, l2, l3, l4] [] H r ↔ r = (none, H) := q_ret (mo_78 59 rfl) mrt_78
theorem r78_60 : Runs xs sl d 78 60 [l0, l1, l2, l3, l4] [] H r ↔ Runs xs sl d 78 61 [l0, l1, l2, l3, l4] [.int 0] H r := q_iconst (mo_78 60 rfl) rfl rfl
theorem r78_61 : Runs xs sl d 78 61 [l0, l1, l2, some (.int i3), l4] [.int u0] H r ↔ Runs xs sl d 78 63 [l0, l1, l2, some (.int i3), some (.int u0)] [] H r := q_istore (mo_78 61 rfl) (Nat.le_of_ble_eq_true rfl) rfl rfl
theorem r78_63 : Runs xs sl d 78 63 [l0, l1, l2, l3, some (.int i4)] [] H r ↔ Runs xs sl d 78 65 [l0, l1, l2, l3, some (.int i4)] [.int i4] H r := q_iload (mo_78 63 rfl) rfl rfl
theorem r78_65 : Runs xs sl d 78 65 [some (.ref a0), l1, l2, l3, l4] [s0] H r ↔ Runs xs sl d 78 66 [some (.ref a0), l1, l2, l3, l4] [.ref a0, s0] H r := q_aload_n (mo_78 65 rfl) rfl rfl
theorem r78_66 : Runs xs sl d 78 66 [l0, l1, l2, l3, l4] [.ref b1, s0] H r ↔ ∃ v, hO H b1 3 3 = some v ∧ Runs xs sl d 78 69 [l0, l1, l2, l3, l4] [v, s0] H r := q_getf (mo_78 66 rfl) mow_78 rfl rfl
theorem r78_69 : Runs xs sl d 78 69 [l0, l1, l2, l3, l4] [.ref b1, s0] H r ↔ ∃ v, hO H b1 6 1 = some v ∧ Runs xs sl d 78 72 [l0, l1, l2, l3, l4] [v, s0] H r := q_getf (mo_78 69 rfl) mow_78 rfl rfl
theorem r78_72 : Runs xs sl d 78 72 [l0, l1, l2, l3, l4] [.int u1, .int u0] H r ↔ if u1 ≤ u0 then Runs xs sl d 78 149 [l0, l1, l2, l3, l4] [] H r else Runs xs sl d 78 75 [l0, l1, l2, l3, l4] [] H r := q_icmp_ge (mo_78 72 rfl) rfl rfl
theorem r78_75 : Runs xs sl d 78 75 [l0, l1, some (.int i2), l3, l4] [] H r ↔ Runs xs sl d 78 76 [l0, l1, some (.int i2), l3, l4] [.int i2] H r := q_iload_n (mo_78 75 rfl) rfl rfl
theorem r78_76 : Runs xs sl d 78 76 [l0, l1, l2, l3, some (.int i4)] [s0] H r ↔ Runs xs sl d 78 78 [l0, l1, l2, l3, some (.int i4)] [.int i4, s0] H r := q_iload (mo_78 76 rfl) rfl rfl
theorem r78_78 : Runs xs sl d 78 78 [l0, l1, l2, l3, l4] [.int u1, .int u0] H r ↔ Runs xs sl d 78 79 [l0, l1, l2, l3, l4] [.int (u0 >>> (u1 &&& 31))] H r := q_ishr (mo_78 78 rfl) rfl
theorem r78_79 : Runs xs sl d 78 79 [l0, l1, l2, l3, l4] [s0] H r ↔ Runs xs sl d 78 80 [l0, l1, l2, l3, l4] [.int 1, s0] H r := q_iconst (mo_78 79 rfl) rfl rfl
theorem r78_80 : Runs xs sl d 78 80 [l0, l1, l2, l3, l4] [.int u1, .int u0] H r ↔ Runs xs sl d 78 81 [l0, l1, l2, l3, l4] [.int (u0 &&& u1)] H r := q_iand (mo_78 80 rfl) rfl
theorem r78_81 : Runs xs sl d 78 81 [l0, l1, l2, l3, l4] [.int u0] H r ↔ if ¬ u0 = 0 then Runs xs sl d 78 143 [l0, l1, l2, l3, l4] [] H r else Runs xs sl d 78 84 [l0, l1, l2, l3, l4] [] H r := q_if_ne (mo_78 81 rfl) rfl rfl
theorem r78_84 : Runs xs sl d 78 84 [some (.ref a0), l1, l2, l3, l4] [] H r ↔ Runs xs sl d 78 85 [some (.ref a0), l1, l2, l3, l4] [.ref a0] H r := q_aload_n (mo_78 84 rfl) rfl rfl
theorem r78_85 : Runs xs sl d 78 85 [l0, l1, l2, l3, l4] [.ref b0] H r ↔ ∃ v, hO H b0 3 3 = some v ∧ Runs xs sl d 78 88 [l0, l1, l2, l3, l4] [v] H r := q_getf (mo_78 85 rfl) mow_78 rfl rfl
theorem r78_88 : Runs xs sl d 78 88 [some (.ref a0), l1, l2, l3, l4] [s0] H r ↔ Runs xs sl d 78 89 [some (.ref a0), l1, l2, l3, l4] [.ref a0, s0] H r := q_aload_n (mo_78 88 rfl) rfl rfl
theorem r78_89 : Runs xs sl d 78 89 [l0, l1, l2, l3, l4] [.ref b1, s0] H r ↔ ∃ v, hO H b1 3 6 = some v ∧ Runs xs sl d 78 92 [l0, l1, l2, l3, l4] [v, s0] H r := q_getf (mo_78 89 rfl) mow_78 rfl rfl
theorem r78_92 : Runs xs sl d 78 92 [l0, some (.int i1), l2, l3, l4] [s1, s0] H r ↔ Runs xs sl d 78 93 [l0, some (.int i1), l2, l3, l4] [.int i1, s1, s0] H r := q_iload_n (mo_78 92 rfl) rfl rfl
theorem r78_93 : Runs xs sl d 78 93 [l0, l1, l2, l3, l4] [s2, s1, s0] H r ↔ Runs xs sl d 78 95 [l0, l1, l2, l3, l4] [.int 6, s2, s1, s0] H r := q_bipush (mo_78 93 rfl) rfl rfl
theorem r78_95 : Runs xs sl d 78 95 [l0, l1, l2, l3, l4] [.int u3, .int u2, s1, s0] H r ↔ Runs xs sl d 78 96 [l0, l1, l2, l3, l4] [.int (u2 * u3), s1, s0] H r := q_imul (mo_78 95 rfl) rfl
theorem r78_96 : Runs xs sl d 78 96 [l0, l1, l2, l3, some (.int i4)] [s2, s1, s0] H r ↔ Runs xs sl d 78 98 [l0, l1, l2, l3, some (.int i4)] [.int i4, s2, s1, s0] H r := q_iload (mo_78 96 rfl) rfl rfl
theorem r78_98 : Runs xs sl d 78 98 [some (.ref a0), l1, l2, l3, l4] [s3, s2, s1, s0] H r ↔ Runs xs sl d 78 99 [some (.ref a0), l1, l2, l3, l4] [.ref a0, s3, s2, s1, s0] H r := q_aload_n (mo_78 98 rfl) rfl rfl
theorem r78_99 : Runs xs sl d 78 99 [l0, l1, l2, l3, l4] [.ref b4, s3, s2, s1, s0] H r ↔ ∃ v, hO H b4 3 9 = some v ∧ Runs xs sl d 78 102 [l0, l1, l2, l3, l4] [v, s3, s2, s1, s0] H r := q_getf (mo_78 99 rfl) mow_78 rfl rfl
theorem r78_102 (hc : hC H b0 = some 6) : Runs xs sl (d + 1) 78 102 [l0, l1, l2, l3, l4] [.int u4, .int u3, .int u2, .ref b1, .ref b0] H r ↔ ∃ v H1, Runs xs sl d 125 0 [some (.ref b0), some (.ref b1), some (.int u2), some (.int u3), some (.int u4), none, none, none, none] [] H (v, H1) ∧ Runs xs sl (d + 1) 78 105 [l0, l1, l2, l3, l4] (v.toList ++ []) H1 r := q_callV (M' := 125) (as := [.ref b1, .int u2, .int u3, .int u4]) (rest := []) (mo_78 102 rfl) mow_78 rfl mcs_125 mmx_125 rfl (Nat.le_of_ble_eq_true rfl) (Nat.le_of_ble_eq_true rfl) rfl rfl hc
theorem r78_105 : Runs xs sl d 78 105 [l0, l1, l2, l3, l4] [.int u0] H r ↔ if u0 = 0 then Runs xs sl d 78 143 [l0, l1, l2, l3, l4] [] H r else Runs xs sl d 78 108 [l0, l1, l2, l3, l4] [] H r := q_if_eq (mo_78 105 rfl) rfl rfl
theorem r78_108 : Runs xs sl d 78 108 [some (.ref a0), l1, l2, l3, l4] [] H r ↔ Runs xs sl d 78 109 [some (.ref a0), l1, l2, l3, l4] [.ref a0] H r := q_aload_n (mo_78 108 rfl) rfl rfl
theorem r78_109 : Runs xs sl d 78 109 [l0, l1, l2, l3, l4] [.ref b0] H r ↔ ∃ v, hO H b0 3 3 = some v ∧ Runs xs sl d 78 112 [l0, l1, l2, l3, l4] [v] H r := q_getf (mo_78 109 rfl) mow_78 rfl rfl
theorem r78_112 : Runs xs sl d 78 112 [some (.ref a0), l1, l2, l3, l4] [s0] H r ↔ Runs xs sl d 78 113 [some (.ref a0), l1, l2, l3, l4] [.ref a0, s0] H r := q_aload_n (mo_78 112 rfl) rfl rfl
theorem r78_113 : Runs xs sl d 78 113 [l0, l1, l2, l3, l4] [.ref b1, s0] H r ↔ ∃ v, hO H b1 3 6 = some v ∧ Runs xs sl d 78 116 [l0, l1, l2, l3, l4] [v, s0] H r := q_getf (mo_78 113 rfl) mow_78 rfl rfl
theorem r78_116 : Runs xs sl d 78 116 [some (.ref a0), l1, l2, l3, l4] [s1, s0] H r ↔ Runs xs sl d 78 117 [some (.ref a0), l1, l2, l3, l4] [.ref a0, s1, s0] H r := q_aload_n (mo_78 116 rfl) rfl rfl
theorem r78_117 : Runs xs sl d 78 117 [l0, some (.int i1), l2, l3, l4] [s2, s1, s0] H r ↔ Runs xs sl d 78 118 [l0, some (.int i1), l2, l3, l4] [.int i1, s2, s1, s0] H r := q_iload_n (mo_78 117 rfl) rfl rfl
theorem r78_118 (hc : hC H b2 = some 3) : Runs xs sl (d + 1) 78 118 [l0, l1, l2, l3, l4] [.int u3, .ref b2, .ref b1, .ref b0] H r ↔ ∃ v H1, Runs xs sl d 75 0 [some (.ref b2), some (.int u3), none] [] H (v, H1) ∧ Runs xs sl (d + 1) 78 121 [l0, l1, l2, l3, l4] (v.toList ++ [.ref b1, .ref b0]) H1 r := q_callV (M' := 75) (as := [.int u3]) (rest := [.ref b1, .ref b0]) (mo_78 118 rfl) mow_78 rfl mcs_75 mmx_75 rfl (Nat.le_of_ble_eq_true rfl) (Nat.le_of_ble_eq_true rfl) rfl rfl hc
theorem r78_121 : Runs xs sl d 78 121 [l0, l1, l2, l3, some (.int i4)] [s2, s1, s0] H r ↔ Runs xs sl d 78 123 [l0, l1, l2, l3, some (.int i4)] [.int i4, s2, s1, s0] H r := q_iload (mo_78 121 rfl) rfl rfl
theorem r78_123 : Runs xs sl d 78 123 [l0, l1, l2, l3, l4] [s3, s2, s1, s0] H r ↔ Runs xs sl d 78 124 [l0, l1, l2, l3, l4] [.int 1, s3, s2, s1, s0] H r := q_iconst (mo_78 123 rfl) rfl rfl
theorem r78_124 (hc : hC H b0 = some 6) : Runs xs sl (d + 1) 78 124 [l0, l1, l2, l3, l4] [.int u4, .int u3, .int u2, .ref b1, .ref b0] H r ↔ ∃ v H1, Runs xs sl d 126 0 [some (.ref b0), some (.ref b1), some (.int u2), some (.int u3), some (.int u4), none, none, none, none] [] H (v, H1) ∧ Runs xs sl (d + 1) 78 127 [l0, l1, l2, l3, l4] (v.toList ++ []) H1 r := q_callV (M' := 126) (as := [.ref b1, .int u2, .int u3, .int u4]) (rest := []) (mo_78 124 rfl) mow_78 rfl mcs_126 mmx_126 rfl (Nat.le_of_ble_eq_true rfl) (Nat.le_of_ble_eq_true rfl) rfl rfl hc
theorem r78_127 : Runs xs sl d 78 127 [l0, l1, l2, l3, l4] [.int u0] H r ↔ if u0 = 0 then Runs xs sl d 78 143 [l0, l1, l2, l3, l4] [] H r else Runs xs sl d 78 130 [l0, l1, l2, l3, l4] [] H r := q_if_eq (mo_78 127 rfl) rfl rfl
theorem r78_130 : Runs xs sl d 78 130 [some (.ref a0), l1, l2, l3, l4] [] H r ↔ Runs xs sl d 78 131 [some (.ref a0), l1, l2, l3, l4] [.ref a0] H r := q_aload_n (mo_78 130 rfl) rfl rfl
theorem r78_131 : Runs xs sl d 78 131 [l0, some (.int i1), l2, l3, l4] [s0] H r ↔ Runs xs sl d 78 132 [l0, some (.int i1), l2, l3, l4] [.int i1, s0] H r := q_iload_n (mo_78 131 rfl) rfl rfl
theorem r78_132 : Runs xs sl d 78 132 [l0, l1, l2, l3, l4] [s1, s0] H r ↔ Runs xs sl d 78 133 [l0, l1, l2, l3, l4] [.int 1, s1, s0] H r := q_iconst (mo_78 132 rfl) rfl rfl
theorem r78_133 : Runs xs sl d 78 133 [l0, l1, l2, l3, l4] [.int u2, .int u1, s0] H r ↔ Runs xs sl d 78 134 [l0, l1, l2, l3, l4] [.int (u1 + u2), s0] H r := q_iadd (mo_78 133 rfl) rfl
theorem r78_134 : Runs xs sl d 78 134 [l0, l1, some (.int i2), l3, l4] [s1, s0] H r ↔ Runs xs sl d 78 135 [l0, l1, some (.int i2), l3, l4] [.int i2, s1, s0] H r := q_iload_n (mo_78 134 rfl) rfl rfl
theorem r78_135 : Runs xs sl d 78 135 [l0, l1, l2, l3, l4] [s2, s1, s0] H r ↔ Runs xs sl d 78 136 [l0, l1, l2, l3, l4] [.int 1, s2, s1, s0] H r := q_iconst (mo_78 135 rfl) rfl rfl
theorem r78_136 : Runs xs sl d 78 136 [l0, l1, l2, l3, some (.int i4)] [s3, s2, s1, s0] H r ↔ Runs xs sl d 78 138 [l0, l1, l2, l3, some (.int i4)] [.int i4, s3, s2, s1, s0] H r := q_iload (mo_78 136 rfl) rfl rfl
theorem r78_138 : Runs xs sl d 78 138 [l0, l1, l2, l3, l4] [.int u4, .int u3, s2, s1, s0] H r ↔ Runs xs sl d 78 139 [l0, l1, l2, l3, l4] [.int (u3 <<< (u4 &&& 31)), s2, s1, s0] H r := q_ishl (mo_78 138 rfl) rfl
theorem r78_139 : Runs xs sl d 78 139 [l0, l1, l2, l3, l4] [.int u3, .int u2, s1, s0] H r ↔ Runs xs sl d 78 140 [l0, l1, l2, l3, l4] [.int (u2 ||| u3), s1, s0] H r := q_ior (mo_78 139 rfl) rfl
theorem r78_140 (hc : hC H b0 = some 3) : Runs xs sl (d + 1) 78 140 [l0, l1, l2, l3, l4] [.int u2, .int u1, .ref b0] H r ↔ ∃ v H1, Runs xs sl d 78 0 [some (.ref b0), some (.int u1), some (.int u2), none, none] [] H (v, H1) ∧ Runs xs sl (d + 1) 78 143 [l0, l1, l2, l3, l4] (v.toList ++ []) H1 r := q_callV (M' := 78) (as := [.int u1, .int u2]) (rest := []) (mo_78 140 rfl) mow_78 rfl mcs_78 mmx_78 rfl (Nat.le_of_ble_eq_true rfl) (Nat.le_of_ble_eq_true rfl) rfl rfl hc
theorem r78_143 : Runs xs sl d 78 143 [l0, l1, l2, some (.int i3), some (.int i4)] [] H r ↔ Runs xs sl d 78 146 [l0, l1, l2, some (.int i3), some (.int (i4 + 1))] [] H r := q_iinc (mo_78 143 rfl) rfl (Nat.le_of_ble_eq_true rfl) rfl rfl
theorem r78_146 : Runs xs sl d 78 146 [l0, l1, l2, l3, l4] [] H r ↔ Runs xs sl d 78 63 [l0, l1, l2, l3, l4] [] H r := q_goto (mo_78 146 rfl) rfl
theorem r78_149 : Runs xs sl d 78 149 [l0, l1, l2, l3, l4] [] H r ↔ r = (none, H) := q_ret (mo_78 149 rfl) mrt_78
theorem r79_0 : Runs xs sl d 79 0 [some (.ref a0), l1, l2, l3] [] H r ↔ Runs xs sl d 79 1 [some (.ref a0), l1, l2, l3] [.ref a0] H r := q_aload_n (mo_79 0 rfl) rfl rfl
theorem r79_1 : Runs xs sl d 79 1 [l0, l1, l2, l3] [.ref b0] H r ↔ ∃ v, hO H b0 3 10 = some v ∧ Runs xs sl d 79 4 [l0, l1, l2, l3] [v] H r := q_getf (mo_79 1 rfl) mow_79 rfl rfl
theorem r79_4 : Runs xs sl d 79 4 [l0, some (.int i1), l2, l3] [s0] H r ↔ Runs xs sl d 79 5 [l0, some (.int i1), l2, l3] [.int i1, s0] H r := q_iload_n (mo_79 4 rfl) rfl rfl
theorem r79_5 : Runs xs sl d 79 5 [l0, l1, l2, l3] [.int u1, .int u0] H r ↔ Runs xs sl d 79 6 [l0, l1, l2, l3] [.int (u0 - u1)] H r := q_isub (mo_79 5 rfl) rfl
theorem r79_6 : Runs xs sl d 79 6 [l0, l1, l2, some (.int i3)] [s0] H r ↔ Runs xs sl d 79 7 [l0, l1, l2, some (.int i3)] [.int i3, s0] H r := q_iload_n (mo_79 6 rfl) rfl rfl
theorem r79_7 : Runs xs sl d 79 7 [l0, l1, l2, l3] [.int u1, .int u0] H r ↔ if u0 < u1 then Runs xs sl d 79 29 [l0, l1, l2, l3] [] H r else Runs xs sl d 79 10 [l0, l1, l2, l3] [] H r := q_icmp_lt (mo_79 7 rfl) rfl rfl
theorem r79_10 : Runs xs sl d 79 10 [some (.ref a0), l1, l2, l3] [] H r ↔ Runs xs sl d 79 11 [some (.ref a0), l1, l2, l3] [.ref a0] H r := q_aload_n (mo_79 10 rfl) rfl rfl
theorem r79_11 : Runs xs sl d 79 11 [l0, l1, l2, l3] [.ref b0] H r ↔ ∃ v, hO H b0 3 11 = some v ∧ Runs xs sl d 79 14 [l0, l1, l2, l3] [v] H r := q_getf (mo_79 11 rfl) mow_79 rfl rfl
theorem r79_14 : Runs xs sl d 79 14 [l0, l1, some (.int i2), l3] [s0] H r ↔ Runs xs sl d 79 15 [l0, l1, some (.int i2), l3] [.int i2, s0] H r := q_iload_n (mo_79 14 rfl) rfl rfl
theorem r79_15 : Runs xs sl d 79 15 [l0, l1, l2, l3] [s1, s0] H r ↔ Runs xs sl d 79 16 [l0, l1, l2, l3] [.int (-1), s1, s0] H r := q_iconst (mo_79 15 rfl) rfl rfl
theorem r79_16 : Runs xs sl d 79 16 [l0, l1, l2, l3] [.int u2, .int u1, s0] H r ↔ Runs xs sl d 79 17 [l0, l1, l2, l3] [.int (u1 ^^^ u2), s0] H r := q_ixor (mo_79 16 rfl) rfl
theorem r79_17 : Runs xs sl d 79 17 [l0, l1, l2, l3] [.int u1, .int u0] H r ↔ Runs xs sl d 79 18 [l0, l1, l2, l3] [.int (u0 &&& u1)] H r := q_iand (mo_79 17 rfl) rfl
theorem r79_18 : Runs xs sl (d + 1) 79 18 [l0, l1, l2, l3] [.int u0] H r ↔ ∃ v H1, Runs xs sl d 287 0 [some (.int u0)] [] H (v, H1) ∧ Runs xs sl (d + 1) 79 21 [l0, l1, l2, l3] (v.toList ++ []) H1 r := q_callS (M' := 287) (as := [.int u0]) (rest := []) (mo_79 18 rfl) mow_79 rfl mmx_287 rfl (Nat.le_of_ble_eq_true rfl) (Nat.le_of_ble_eq_true rfl) rfl rfl
theorem r79_21 : Runs xs sl d 79 21 [l0, l1, l2, some (.int i3)] [s0] H r ↔ Runs xs sl d 79 22 [l0, l1, l2, some (.int i3)] [.int i3, s0] H r := q_iload_n (mo_79 21 rfl) rfl rfl
theorem r79_22 : Runs xs sl d 79 22 [l0, l1, l2, l3] [s1, s0] H r ↔ Runs xs sl d 79 23 [l0, l1, l2, l3] [.int 2, s1, s0] H r := q_iconst (mo_79 22 rfl) rfl rfl
theorem r79_23 : Runs xs sl (d + 1) 79 23 [l0, l1, l2, l3] [.int u2, .int u1, .int u0] H r ↔ Runs xs sl (d + 1) 79 26 [l0, l1, l2, l3] [.int (if u2 < u1 then u2 else u1), .int u0] H r := q_mmin (mo_79 23 rfl) mow_79 rfl (Nat.le_of_ble_eq_true rfl) rfl
theorem r79_26 : Runs xs sl d 79 26 [l0, l1, l2, l3] [.int u1, .int u0] H r ↔ if u1 ≤ u0 then Runs xs sl d 79 33 [l0, l1, l2, l3] [] H r else Runs xs sl d 79 29 [l0, l1, l2, l3] [] H r := q_icmp_ge (mo_79 26 rfl) rfl rfl
theorem r79_29 : Runs xs sl d 79 29 [l0, l1, l2, l3] [] H r ↔ Runs xs sl d 79 30 [l0, l1, l2, l3] [.int 1] H r := q_iconst (mo_79 29 rfl) rfl rfl
theorem r79_30 : Runs xs sl d 79 30 [l0, l1, l2, l3] [s0] H r ↔ Runs xs sl d 79 34 [l0, l1, l2, l3] [s0] H r := q_goto (mo_79 30 rfl) rfl
theorem r79_33 : Runs xs sl d 79 33 [l0, l1, l2, l3] [] H r ↔ Runs xs sl d 79 34 [l0, l1, l2, l3] [.int 0] H r := q_iconst (mo_79 33 rfl) rfl rfl
theorem r79_34 (h : u0 = 0 ∨ u0 = 1) : Runs xs sl d 79 34 [l0, l1, l2, l3] [.int u0] H r ↔ r = (some (.int u0), H) := q_zret (mo_79 34 rfl) mrt_79 h
theorem r80_0 : Runs xs sl d 80 0 [l0, l1, l2, l3, l4] [] H r ↔ Runs xs sl d 80 1 [l0, l1, l2, l3, l4] [.int 0] H r := q_iconst (mo_80 0 rfl) rfl rfl
theorem r80_1 : Runs xs sl d 80 1 [l0, l1, some (.int i2), l3, l4] [.int u0] H r ↔ Runs xs sl d 80 2 [l0, l1, some (.int i2), some (.int u0), l4] [] H r := q_istore_n (mo_80 1 rfl) (Nat.le_of_ble_eq_true rfl) rfl rfl
theorem r80_2 : Runs xs sl d 80 2 [l0, l1, l2, l3, l4] [] H r ↔ Runs xs sl d 80 3 [l0, l1, l2, l3, l4] [.int 0] H r := q_iconst (mo_80 2 rfl) rfl rfl
theorem r80_3 : Runs xs sl d 80 3 [l0, l1, l2, some (.int i3), l4] [.int u0] H r ↔ Runs xs sl d 80 5 [l0, l1, l2, some (.int i3), some (.int u0)] [] H r := q_istore (mo_80 3 rfl) (Nat.le_of_ble_eq_true rfl) rfl rfl
theorem r80_5 : Runs xs sl d 80 5 [l0, l1, l2, l3, some (.int i4)] [] H r ↔ Runs xs sl d 80 7 [l0, l1, l2, l3, some (.int i4)] [.int i4] H r := q_iload (mo_80 5 rfl) rfl rfl
theorem r80_7 : Runs xs sl d 80 7 [some (.ref a0), l1, l2, l3, l4] [s0] H r ↔ Runs xs sl d 80 8 [some (.ref a0), l1, l2, l3, l4] [.ref a0, s0] H r := q_aload_n (mo_80 7 rfl) rfl rfl
theorem r80_8 : Runs xs sl d 80 8 [l0, l1, l2, l3, l4] [.ref b1, s0] H r ↔ ∃ v, hO H b1 3 3 = some v ∧ Runs xs sl d 80 11 [l0, l1, l2, l3, l4] [v, s0] H r := q_getf (mo_80 8 rfl) mow_80 rfl rfl
theorem r80_11 : Runs xs sl d 80 11 [l0, l1, l2, l3, l4] [.ref b1, s0] H r ↔ ∃ v, hO H b1 6 0 = some v ∧ Runs xs sl d 80 14 [l0, l1, l2, l3, l4] [v, s0] H r := q_getf (mo_80 11 rfl) mow_80 rfl rfl
theorem r80_14 : Runs xs sl d 80 14 [l0, l1, l2, l3, l4] [.ref b1, s0] H r ↔ ∃ v, hO H b1 8 0 = some v ∧ Runs xs sl d 80 17 [l0, l1, l2, l3, l4] [v, s0] H r := q_getf (mo_80 14 rfl) mow_80 rfl rfl
theorem r80_17 : Runs xs sl d 80 17 [l0, l1, l2, l3, l4] [.int u1, .int u0] H r ↔ if u1 ≤ u0 then Runs xs sl d 80 46 [l0, l1, l2, l3, l4] [] H r else Runs xs sl d 80 20 [l0, l1, l2, l3, l4] [] H r := q_icmp_ge (mo_80 17 rfl) rfl rfl
theorem r80_20 : Runs xs sl d 80 20 [l0, l1, l2, some (.int i3), l4] [] H r ↔ Runs xs sl d 80 21 [l0, l1, l2, some (.int i3), l4] [.int i3] H r := q_iload_n (mo_80 20 rfl) rfl rfl
theorem r80_21 : Runs xs sl d 80 21 [l0, l1, l2, l3, l4] [s0] H r ↔ Runs xs sl d 80 23 [l0, l1, l2, l3, l4] [.int 7, s0] H r := q_bipush (mo_80 21 rfl) rfl rfl
theorem r80_23 : Runs xs sl d 80 23 [l0, l1, l2, l3, l4] [.int u1, .int u0] H r ↔ Runs xs sl d 80 24 [l0, l1, l2, l3, l4] [.int (u0 * u1)] H r := q_imul (mo_80 23 rfl) rfl
theorem r80_24 : Runs xs sl d 80 24 [some (.ref a0), l1, l2, l3, l4] [s0] H r ↔ Runs xs sl d 80 25 [some (.ref a0), l1, l2, l3, l4] [.ref a0, s0] H r := q_aload_n (mo_80 24 rfl) rfl rfl
theorem r80_25 : Runs xs sl d 80 25 [l0, l1, l2, l3, l4] [.ref b1, s0] H r ↔ ∃ v, hO H b1 3 6 = some v ∧ Runs xs sl d 80 28 [l0, l1, l2, l3, l4] [v, s0] H r := q_getf (mo_80 25 rfl) mow_80 rfl rfl
theorem r80_28 : Runs xs sl d 80 28 [l0, some (.int i1), l2, l3, l4] [s1, s0] H r ↔ Runs xs sl d 80 29 [l0, some (.int i1), l2, l3, l4] [.int i1, s1, s0] H r := q_iload_n (mo_80 28 rfl) rfl rfl
theorem r80_29 : Runs xs sl d 80 29 [l0, l1, l2, l3, l4] [s2, s1, s0] H r ↔ Runs xs sl d 80 31 [l0, l1, l2, l3, l4] [.int 6, s2, s1, s0] H r := q_bipush (mo_80 29 rfl) rfl rfl
theorem r80_31 : Runs xs sl d 80 31 [l0, l1, l2, l3, l4] [.int u3, .int u2, s1, s0] H r ↔ Runs xs sl d 80 32 [l0, l1, l2, l3, l4] [.int (u2 * u3), s1, s0] H r := q_imul (mo_80 31 rfl) rfl
theorem r80_32 : Runs xs sl d 80 32 [l0, l1, l2, l3, some (.int i4)] [s2, s1, s0] H r ↔ Runs xs sl d 80 34 [l0, l1, l2, l3, some (.int i4)] [.int i4, s2, s1, s0] H r := q_iload (mo_80 32 rfl) rfl rfl
theorem r80_34 : Runs xs sl d 80 34 [l0, l1, l2, l3, l4] [.int u3, .int u2, s1, s0] H r ↔ Runs xs sl d 80 35 [l0, l1, l2, l3, l4] [.int (u2 + u3), s1, s0] H r := q_iadd (mo_80 34 rfl) rfl
theorem r80_35 : Runs xs sl d 80 35 [l0, l1, l2, l3, l4] [.int u2, .ref b1, s0] H r ↔ ∃ v, hA H b1 0 u2 = some v ∧ Runs xs sl d 80 36 [l0, l1, l2, l3, l4] [.int v, s0] H r := run_iald (mo_80 35 rfl) rfl
theorem r80_36 : Runs xs sl d 80 36 [l0, l1, l2, l3, l4] [.int u1, .int u0] H r ↔ Runs xs sl d 80 37 [l0, l1, l2, l3, l4] [.int (u0 + u1)] H r := q_iadd (mo_80 36 rfl) rfl
theorem r80_37 : Runs xs sl d 80 37 [l0, l1, l2, l3, l4] [s0] H r ↔ Runs xs sl d 80 38 [l0, l1, l2, l3, l4] [.int 3, s0] H r := q_iconst (mo_80 37 rfl) rfl rfl
theorem r80_38 : Runs xs sl d 80 38 [l0, l1, l2, l3, l4] [.int u1, .int u0] H r ↔ Runs xs sl d 80 39 [l0, l1, l2, l3, l4] [.int (u0 + u1)] H r := q_iadd (mo_80 38 rfl) rfl
theorem r80_39 : Runs xs sl d 80 39 [l0, l1, some (.int i2), l3, l4] [.int u0] H r ↔ Runs xs sl d 80 40 [l0, l1, some (.int i2), some (.int u0), l4] [] H r := q_istore_n (mo_80 39 rfl) (Nat.le_of_ble_eq_true rfl) rfl rfl
theorem r80_40 : Runs xs sl d 80 40 [l0, l1, l2, some (.int i3), some (.int i4)] [] H r ↔ Runs xs sl d 80 43 [l0, l1, l2, some (.int i3), some (.int (i4 + 1))] [] H r := q_iinc (mo_80 40 rfl) rfl (Nat.le_of_ble_eq_true rfl) rfl rfl
theorem r80_43 : Runs xs sl d 80 43 [l0, l1, l2, l3, l4] [] H r ↔ Runs xs sl d 80 5 [l0, l1, l2, l3, l4] [] H r := q_goto (mo_80 43 rfl) rfl
theorem r80_46 : Runs xs sl d 80 46 [l0, l1, l2, some (.int i3), l4] [] H r ↔ Runs xs sl d 80 47 [l0, l1, l2, some (.int i3), l4] [.int i3] H r := q_iload_n (mo_80 46 rfl) rfl rfl
theorem r80_47 : Runs xs sl d 80 47 [l0, l1, l2, l3, l4] [s0] H r ↔ Runs xs sl d 80 50 [l0, l1, l2, l3, l4] [.int 256, s0] H r := q_sipush (mo_80 47 rfl) rfl rfl
theorem r80_50 : Runs xs sl d 80 50 [l0, l1, l2, l3, l4] [.int u1, .int u0] H r ↔ Runs xs sl d 80 51 [l0, l1, l2, l3, l4] [.int (u0 * u1)] H r := q_imul (mo_80 50 rfl) rfl
theorem r80_51 : Runs xs sl d 80 51 [l0, l1, some (.int i2), l3, l4] [s0] H r ↔ Runs xs sl d 80 52 [l0, l1, some (.int i2), l3, l4] [.int i2, s0] H r := q_iload_n (mo_80 51 rfl) rfl rfl
theorem r80_52 : Runs xs sl d 80 52 [l0, l1, l2, l3, l4] [.int u1, .int u0] H r ↔ Runs xs sl d 80 53 [l0, l1, l2, l3, l4] [.int (u0 + u1)] H r := q_iadd (mo_80 52 rfl) rfl
theorem r80_53 : Runs xs sl d 80 53 [l0, l1, l2, l3, l4] [s0] H r ↔ Runs xs sl d 80 55 [l0, l1, l2, l3, l4] [.int 9, s0] H r := q_bipush (mo_80 53 rfl) rfl rfl
theorem r80_55 : Runs xs sl d 80 55 [l0, l1, l2, l3, l4] [.int u1, .int u0] H r ↔ Runs xs sl d 80 56 [l0, l1, l2, l3, l4] [.int (u0 * u1)] H r := q_imul (mo_80 55 rfl) rfl
theorem r80_56 : Runs xs sl d 80 56 [some (.ref a0), l1, l2, l3, l4] [s0] H r ↔ Runs xs sl d 80 57 [some (.ref a0), l1, l2, l3, l4] [.ref a0, s0] H r := q_aload_n (mo_80 56 rfl) rfl rfl
theorem r80_57 : Runs xs sl d 80 57 [l0, l1, l2, l3, l4] [.ref b1, s0] H r ↔ ∃ v, hO H b1 3 10 = some v ∧ Runs xs sl d 80 60 [l0, l1, l2, l3, l4] [v, s0] H r := q_getf (mo_80 57 rfl) mow_80 rfl rfl
theorem r80_60 : Runs xs sl d 80 60 [l0, l1, l2, l3, l4] [.int u1, .int u0] H r ↔ Runs xs sl d 80 61 [l0, l1, l2, l3, l4] [.int (u0 + u1)] H r := q_iadd (mo_80 60 rfl) rfl
theorem r80_61 : Runs xs sl d 80 61 [l0, l1, l2, l3, l4] [s0] H r ↔ Runs xs sl d 80 62 [l0, l1, l2, l3, l4] [.int 1, s0] H r := q_iconst (mo_80 61 rfl) rfl rfl
theorem r80_62 : Runs xs sl d 80 62 [l0, l1, l2, l3, l4] [.int u1, .int u0] H r ↔ Runs xs sl d 80 63 [l0, l1, l2, l3, l4] [.int (u0 + u1)] H r := q_iadd (mo_80 62 rfl) rfl
theorem r80_63 : Runs xs sl d 80 63 [l0, l1, some (.int i2), l3, l4] [.int u0] H r ↔ Runs xs sl d 80 64 [l0, l1, some (.int i2), some (.int u0), l4] [] H r := q_istore_n (mo_80 63 rfl) (Nat.le_of_ble_eq_true rfl) rfl rfl
theorem r80_64 : Runs xs sl d 80 64 [l0, l1, l2, some (.int i3), l4] [] H r ↔ Runs xs sl d 80 65 [l0, l1, l2, some (.int i3), l4] [.int i3] H r := q_iload_n (mo_80 64 rfl) rfl rfl
theorem r80_65 : Runs xs sl d 80 65 [l0, l1, l2, l3, l4] [s0] H r ↔ Runs xs sl d 80 67 [l0, l1, l2, l3, l4] [.int (-1640531535), s0] H r := q_ldc (mo_80 65 rfl) mow_80 rfl rfl
theorem r80_67 : Runs xs sl d 80 67 [l0, l1, l2, l3, l4] [.int u1, .int u0] H r ↔ Runs xs sl d 80 68 [l0, l1, l2, l3, l4] [.int (u0 * u1)] H r := q_imul (mo_80 67 rfl) rfl
theorem r80_68 : Runs xs sl d 80 68 [l0, l1, l2, l3, l4] [s0] H r ↔ Runs xs sl d 80 70 [l0, l1, l2, l3, l4] [.int 21, s0] H r := q_bipush (mo_80 68 rfl) rfl rfl
theorem r80_70 : Runs xs sl d 80 70 [l0, l1, l2, l3, l4] [.int u1, .int u0] H r ↔ Runs xs sl d 80 71 [l0, l1, l2, l3, l4] [.int ((u0.toUInt32 >>> (u1.toUInt32 &&& Int32.toUInt32 31)).toInt32)] H r := q_iushr (mo_80 70 rfl) rfl
theorem r80_71 : Runs xs sl d 80 71 [l0, l1, l2, some (.int i3), l4] [.int u0] H r ↔ Runs xs sl d 80 73 [l0, l1, l2, some (.int i3), some (.int u0)] [] H r := q_istore (mo_80 71 rfl) (Nat.le_of_ble_eq_true rfl) rfl rfl
theorem r80_73 : Runs xs sl d 80 73 [some (.ref a0), l1, l2, l3, l4] [] H r ↔ Runs xs sl d 80 74 [some (.ref a0), l1, l2, l3, l4] [.ref a0] H r := q_aload_n (mo_80 73 rfl) rfl rfl
theorem r80_74 : Runs xs sl d 80 74 [l0, l1, l2, l3, l4] [.ref b0] H r ↔ ∃ v, hO H b0 3 7 = some v ∧ Runs xs sl d 80 77 [l0, l1, l2, l3, l4] [v] H r := q_getf (mo_80 74 rfl) mow_80 rfl rfl
theorem r80_77 : Runs xs sl d 80 77 [l0, l1, l2, l3, some (.int i4)] [s0] H r ↔ Runs xs sl d 80 79 [l0, l1, l2, l3, some (.int i4)] [.int i4, s0] H r := q_iload (mo_80 77 rfl) rfl rfl
theorem r80_79 : Runs xs sl d 80 79 [l0, l1, l2, l3, l4] [.int u1, .ref b0] H r ↔ ∃ v, hA H b0 0 u1 = some v ∧ Runs xs sl d 80 80 [l0, l1, l2, l3, l4] [.int v] H r := run_iald (mo_80 79 rfl) rfl
theorem r80_80 : Runs xs sl d 80 80 [l0, l1, l2, some (.int i3), l4] [s0] H r ↔ Runs xs sl d 80 81 [l0, l1, l2, some (.int i3), l4] [.int i3, s0] H r := q_iload_n (mo_80 80 rfl) rfl rfl
theorem r80_81 : Runs xs sl d 80 81 [l0, l1, l2, l3, l4] [.int u1, .int u0] H r ↔ if ¬ u0 = u1 then Runs xs sl d 80 86 [l0, l1, l2, l3, l4] [] H r else Runs xs sl d 80 84 [l0, l1, l2, l3, l4] [] H r := q_icmp_ne (mo_80 81 rfl) rfl rfl
theorem r80_84 : Runs xs sl d 80 84 [l0, l1, l2, l3, l4] [] H r ↔ Runs xs sl d 80 85 [l0, l1, l2, l3, l4] [.int 1] H r := q_iconst (mo_80 84 rfl) rfl rfl
theorem r80_85 (h : u0 = 0 ∨ u0 = 1) : Runs xs sl d 80 85 [l0, l1, l2, l3, l4] [.int u0] H r ↔ r = (some (.int u0), H) := q_zret (mo_80 85 rfl) mrt_80 h
theorem r80_86 : Runs xs sl d 80 86 [some (.ref a0), l1, l2, l3, l4] [] H r ↔ Runs xs sl d 80 87 [some (.ref a0), l1, l2, l3, l4] [.ref a0] H r := q_aload_n (mo_80 86 rfl) rfl rfl
theorem r80_87 : Runs xs sl d 80 87 [l0, l1, l2, l3, l4] [.ref b0] H r ↔ ∃ v, hO H b0 3 7 = some v ∧ Runs xs sl d 80 90 [l0, l1, l2, l3, l4] [v] H r := q_getf (mo_80 87 rfl) mow_80 rfl rfl
theorem r80_90 : Runs xs sl d 80 90 [l0, l1, l2, l3, some (.int i4)] [s0] H r ↔ Runs xs sl d 80 92 [l0, l1, l2, l3, some (.int i4)] [.int i4, s0] H r := q_iload (mo_80 90 rfl) rfl rfl
theorem r80_92 : Runs xs sl d 80 92 [l0, l1, l2, some (.int i3), l4] [s1, s0] H r ↔ Runs xs sl d 80 93 [l0, l1, l2, some (.int i3), l4] [.int i3, s1, s0] H r := q_iload_n (mo_80 92 rfl) rfl rfl
theorem r80_93 : Runs xs sl d 80 93 [l0, l1, l2, l3, l4] [.int u2, .int u1, .ref b0] H r ↔ ∃ H1, hAw H b0 0 u1 u2 = some H1 ∧ Runs xs sl d 80 94 [l0, l1, l2, l3, l4] [] H1 r := run_iast (mo_80 93 rfl) rfl
theorem r80_94 : Runs xs sl d 80 94 [l0, l1, l2, l3, l4] [] H r ↔ Runs xs sl d 80 95 [l0, l1, l2, l3, l4] [.int 0] H r := q_iconst (mo_80 94 rfl) rfl rfl
theorem r80_95 (h : u0 = 0 ∨ u0 = 1) : Runs xs sl d 80 95 [l0, l1, l2, l3, l4] [.int u0] H r ↔ r = (some (.int u0), H) := q_zret (mo_80 95 rfl) mrt_80 h
end ROWS
