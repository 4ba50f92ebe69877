/-! ROWS, printed by wip/whole/rows.py: 85:115 -/
section ROWS
variable {xs : Nat → Int32} {sl d : Nat} {H : mH} {r : Option Value × mH} {l0 l1 l2 l3 l4 l5 l6 l7 l8 l9 l10 l11 : Option Value} {s0 s1 s2 s3 s4 s5 s6 s7 s8 s9 s10 s11 : Value} {i0 i1 i2 i3 i4 i5 i6 i7 i8 i9 i10 i11 : Int32} {j0 j1 j2 j3 j4 j5 j6 j7 j8 j9 j10 j11 : Int64} {a0 a1 a2 a3 a4 a5 a6 a7 a8 a9 a10 a11 : Nat} {u0 u1 u2 u3 u4 u5 u6 u7 u8 u9 u10 u11 : Int32} {w0 w1 w2 w3 w4 w5 w6 w7 w8 w9 w10 w11 : Int64} {b0 b1 b2 b3 b4 b5 b6 b7 b8 b9 b10 b11 : Nat}
theorem r85_0 : Runs xs sl d 85 0 [some (.ref a0)] [] H r ↔ Runs xs sl d 85 1 [some (.ref a0)] [.ref a0] H r := q_aload_n (mo_85 0 rfl) rfl rfl
theorem r85_1 : Runs xs sl (d + 1) 85 1 [l0] [.ref b0] H r ↔ ∃ v H1, Runs xs sl d 292 0 [some (.ref b0)] [] H (v, H1) ∧ Runs xs sl (d + 1) 85 4 [l0] (v.toList ++ []) H1 r := q_callI (M' := 292) (as := []) (rest := []) (mo_85 1 rfl) mow_85 rfl mmx_292 rfl (Nat.le_of_ble_eq_true rfl) (Nat.le_of_ble_eq_true rfl) rfl rfl
theorem r85_4 : Runs xs sl d 85 4 [some (.ref a0)] [] H r ↔ Runs xs sl d 85 5 [some (.ref a0)] [.ref a0] H r := q_aload_n (mo_85 4 rfl) rfl rfl
theorem r85_5 : Runs xs sl d 85 5 [l0] [s0] H r ↔ Runs xs sl d 85 8 [l0] [.ref H.2.1, s0] (mnew H (mO 8 (fun k => mdef (mTy 8 k))) 12) r := q_new (mo_85 5 rfl) mow_85 rfl rfl rfl
theorem r85_8 : Runs xs sl d 85 8 [l0] [.ref b1, s0] H r ↔ Runs xs sl d 85 9 [l0] [.ref b1, .ref b1, s0] H r := q_dup (mo_85 8 rfl) rfl rfl
theorem r85_9 : Runs xs sl (d + 1) 85 9 [l0] [.ref b2, .ref b1, .ref b0] H r ↔ ∃ v H1, Runs xs sl d 148 0 [some (.ref b2)] [] H (v, H1) ∧ Runs xs sl (d + 1) 85 12 [l0] (v.toList ++ [.ref b1, .ref b0]) H1 r := q_callI (M' := 148) (as := []) (rest := [.ref b1, .ref b0]) (mo_85 9 rfl) mow_85 rfl mmx_148 rfl (Nat.le_of_ble_eq_true rfl) (Nat.le_of_ble_eq_true rfl) rfl rfl
theorem r85_12 : Runs xs sl d 85 12 [l0] [.ref b1, .ref b0] H r ↔ ∃ H1, hOw H b0 5 0 (.ref b1) = some H1 ∧ Runs xs sl d 85 15 [l0] [] H1 r := q_putf (mo_85 12 rfl) mow_85 rfl rfl (by decide +kernel) rfl
theorem r85_15 : Runs xs sl d 85 15 [some (.ref a0)] [] H r ↔ Runs xs sl d 85 16 [some (.ref a0)] [.ref a0] H r := q_aload_n (mo_85 15 rfl) rfl rfl
theorem r85_16 : Runs xs sl d 85 16 [l0] [s0] H r ↔ Runs xs sl d 85 19 [l0] [.ref H.2.1, s0] (mnew H (mO 0 (fun k => mdef (mTy 0 k))) 2) r := q_new (mo_85 16 rfl) mow_85 rfl rfl rfl
theorem r85_19 : Runs xs sl d 85 19 [l0] [.ref b1, s0] H r ↔ Runs xs sl d 85 20 [l0] [.ref b1, .ref b1, s0] H r := q_dup (mo_85 19 rfl) rfl rfl
theorem r85_20 : Runs xs sl (d + 1) 85 20 [l0] [.ref b2, .ref b1, .ref b0] H r ↔ ∃ v H1, Runs xs sl d 46 0 [some (.ref b2)] [] H (v, H1) ∧ Runs xs sl (d + 1) 85 23 [l0] (v.toList ++ [.ref b1, .ref b0]) H1 r := q_callI (M' := 46) (as := []) (rest := [.ref b1, .ref b0]) (mo_85 20 rfl) mow_85 rfl mmx_46 rfl (Nat.le_of_ble_eq_true rfl) (Nat.le_of_ble_eq_true rfl) rfl rfl
theorem r85_23 : Runs xs sl d 85 23 [l0] [.ref b1, .ref b0] H r ↔ ∃ H1, hOw H b0 5 1 (.ref b1) = some H1 ∧ Runs xs sl d 85 26 [l0] [] H1 r := q_putf (mo_85 23 rfl) mow_85 rfl rfl (by decide +kernel) rfl
theorem r85_26 : Runs xs sl d 85 26 [some (.ref a0)] [] H r ↔ Runs xs sl d 85 27 [some (.ref a0)] [.ref a0] H r := q_aload_n (mo_85 26 rfl) rfl rfl
theorem r85_27 : Runs xs sl d 85 27 [l0] [s0] H r ↔ Runs xs sl d 85 30 [l0] [.ref H.2.1, s0] (mnew H (mO 4 (fun k => mdef (mTy 4 k))) 4) r := q_new (mo_85 27 rfl) mow_85 rfl rfl rfl
theorem r85_30 : Runs xs sl d 85 30 [l0] [.ref b1, s0] H r ↔ Runs xs sl d 85 31 [l0] [.ref b1, .ref b1, s0] H r := q_dup (mo_85 30 rfl) rfl rfl
theorem r85_31 : Runs xs sl (d + 1) 85 31 [l0] [.ref b2, .ref b1, .ref b0] H r ↔ ∃ v H1, Runs xs sl d 81 0 [some (.ref b2)] [] H (v, H1) ∧ Runs xs sl (d + 1) 85 34 [l0] (v.toList ++ [.ref b1, .ref b0]) H1 r := q_callI (M' := 81) (as := []) (rest := [.ref b1, .ref b0]) (mo_85 31 rfl) mow_85 rfl mmx_81 rfl (Nat.le_of_ble_eq_true rfl) (Nat.le_of_ble_eq_true rfl) rfl rfl
theorem r85_34 : Runs xs sl d 85 34 [l0] [.ref b1, .ref b0] H r ↔ ∃ H1, hOw H b0 5 2 (.ref b1) = some H1 ∧ Runs xs sl d 85 37 [l0] [] H1 r := q_putf (mo_85 34 rfl) mow_85 rfl rfl (by decide +kernel) rfl
theorem r85_37 : Runs xs sl d 85 37 [some (.ref a0)] [] H r ↔ Runs xs sl d 85 38 [some (.ref a0)] [.ref a0] H r := q_aload_n (mo_85 37 rfl) rfl rfl
theorem r85_38 : Runs xs sl d 85 38 [l0] [s0] H r ↔ Runs xs sl d 85 39 [l0] [.int 4, s0] H r := q_iconst (mo_85 38 rfl) rfl rfl
theorem r85_39 (h : ¬ (u1 < 0 ∨ 100000 < u1.toNatClampNeg)) : Runs xs sl d 85 39 [l0] [.int u1, s0] H r ↔ Runs xs sl d 85 41 [l0] [.ref H.2.1, s0] (mnew H (mI 0 u1.toNatClampNeg (fun _ => 0)) u1.toNatClampNeg) r := q_newa_int (mo_85 39 rfl) rfl h
theorem r85_41 : Runs xs sl d 85 41 [l0] [.ref b1, .ref b0] H r ↔ ∃ H1, hOw H b0 5 5 (.ref b1) = some H1 ∧ Runs xs sl d 85 44 [l0] [] H1 r := q_putf (mo_85 41 rfl) mow_85 rfl rfl (by decide +kernel) rfl
theorem r85_44 : Runs xs sl d 85 44 [some (.ref a0)] [] H r ↔ Runs xs sl d 85 45 [some (.ref a0)] [.ref a0] H r := q_aload_n (mo_85 44 rfl) rfl rfl
theorem r85_45 : Runs xs sl d 85 45 [l0] [s0] H r ↔ Runs xs sl d 85 46 [l0] [.int 0, s0] H r := q_iconst (mo_85 45 rfl) rfl rfl
theorem r85_46 (h : ¬ (u1 < 0 ∨ 100000 < u1.toNatClampNeg)) : Runs xs sl d 85 46 [l0] [.int u1, s0] H r ↔ Runs xs sl d 85 48 [l0] [.ref H.2.1, s0] (mnew H (mI 1 u1.toNatClampNeg (fun _ => 0)) u1.toNatClampNeg) r := q_newa_byte (mo_85 46 rfl) rfl h
theorem r85_48 : Runs xs sl d 85 48 [l0] [.ref b1, .ref b0] H r ↔ ∃ H1, hOw H b0 5 6 (.ref b1) = some H1 ∧ Runs xs sl d 85 51 [l0] [] H1 r := q_putf (mo_85 48 rfl) mow_85 rfl rfl (by decide +kernel) rfl
theorem r85_51 : Runs xs sl d 85 51 [l0] [] H r ↔ r = (none, H) := q_ret (mo_85 51 rfl) mrt_85
theorem r86_0 : Runs xs sl d 86 0 [some (.ref a0), l1, l2, l3] [] H r ↔ Runs xs sl d 86 1 [some (.ref a0), l1, l2, l3] [.ref a0] H r := q_aload_n (mo_86 0 rfl) rfl rfl
theorem r86_1 : Runs xs sl d 86 1 [l0, some (.ref a1), l2, l3] [s0] H r ↔ Runs xs sl d 86 2 [l0, some (.ref a1), l2, l3] [.ref a1, s0] H r := q_aload_n (mo_86 1 rfl) rfl rfl
theorem r86_1n : Runs xs sl d 86 1 [l0, some .null, l2, l3] [s0] H r ↔ Runs xs sl d 86 2 [l0, some .null, l2, l3] [.null, s0] H r := q_aload_nN (mo_86 1 rfl) rfl rfl
theorem r86_2 : Runs xs sl d 86 2 [l0, l1, l2, l3] [.ref b1, .ref b0] H r ↔ ∃ H1, hOw H b0 5 6 (.ref b1) = some H1 ∧ Runs xs sl d 86 5 [l0, l1, l2, l3] [] H1 r := q_putf (mo_86 2 rfl) mow_86 rfl rfl (by decide +kernel) rfl
theorem r86_5 : Runs xs sl d 86 5 [some (.ref a0), l1, l2, l3] [] H r ↔ Runs xs sl d 86 6 [some (.ref a0), l1, l2, l3] [.ref a0] H r := q_aload_n (mo_86 5 rfl) rfl rfl
theorem r86_6 : Runs xs sl d 86 6 [l0, l1, some (.int i2), l3] [s0] H r ↔ Runs xs sl d 86 7 [l0, l1, some (.int i2), l3] [.int i2, s0] H r := q_iload_n (mo_86 6 rfl) rfl rfl
theorem r86_7 : Runs xs sl d 86 7 [l0, some (.ref a1), l2, l3] [s1, s0] H r ↔ Runs xs sl d 86 8 [l0, some (.ref a1), l2, l3] [.ref a1, s1, s0] H r := q_aload_n (mo_86 7 rfl) rfl rfl
theorem r86_7n : Runs xs sl d 86 7 [l0, some .null, l2, l3] [s1, s0] H r ↔ Runs xs sl d 86 8 [l0, some .null, l2, l3] [.null, s1, s0] H r := q_aload_nN (mo_86 7 rfl) rfl rfl
theorem r86_8 : Runs xs sl d 86 8 [l0, l1, l2, l3] [.ref b2, s1, s0] H r ↔ ∃ v, hLen H b2 = some v ∧ Runs xs sl d 86 9 [l0, l1, l2, l3] [.int v, s1, s0] H r := run_alen (mo_86 8 rfl) rfl
theorem r86_9 : Runs xs sl (d + 1) 86 9 [l0, l1, l2, l3] [.int u2, .int u1, .ref b0] H r ↔ Runs xs sl (d + 1) 86 12 [l0, l1, l2, l3] [.int (if u2 < u1 then u2 else u1), .ref b0] H r := q_mmin (mo_86 9 rfl) mow_86 rfl (Nat.le_of_ble_eq_true rfl) rfl
theorem r86_12 : Runs xs sl d 86 12 [l0, l1, l2, l3] [.int u1, .ref b0] H r ↔ ∃ H1, hOw H b0 5 7 (.int u1) = some H1 ∧ Runs xs sl d 86 15 [l0, l1, l2, l3] [] H1 r := q_putf (mo_86 12 rfl) mow_86 rfl rfl (by decide +kernel) rfl
theorem r86_15 : Runs xs sl d 86 15 [some (.ref a0), l1, l2, l3] [] H r ↔ Runs xs sl d 86 16 [some (.ref a0), l1, l2, l3] [.ref a0] H r := q_aload_n (mo_86 15 rfl) rfl rfl
theorem r86_16 : Runs xs sl d 86 16 [l0, l1, l2, some (.int i3)] [s0] H r ↔ Runs xs sl d 86 17 [l0, l1, l2, some (.int i3)] [.int i3, s0] H r := q_iload_n (mo_86 16 rfl) rfl rfl
theorem r86_17 : Runs xs sl d 86 17 [l0, l1, l2, l3] [.int u1, .ref b0] H r ↔ ∃ H1, hOw H b0 5 8 (.int u1) = some H1 ∧ Runs xs sl d 86 20 [l0, l1, l2, l3] [] H1 r := q_putf (mo_86 17 rfl) mow_86 rfl rfl (by decide +kernel) rfl
theorem r86_20 : Runs xs sl d 86 20 [some (.ref a0), l1, l2, l3] [] H r ↔ Runs xs sl d 86 21 [some (.ref a0), l1, l2, l3] [.ref a0] H r := q_aload_n (mo_86 20 rfl) rfl rfl
theorem r86_21 : Runs xs sl d 86 21 [l0, l1, l2, l3] [s0] H r ↔ Runs xs sl d 86 22 [l0, l1, l2, l3] [.int 0, s0] H r := q_iconst (mo_86 21 rfl) rfl rfl
theorem r86_22 : Runs xs sl d 86 22 [l0, l1, l2, l3] [.int u1, .ref b0] H r ↔ ∃ H1, hOw H b0 5 9 (.int u1) = some H1 ∧ Runs xs sl d 86 25 [l0, l1, l2, l3] [] H1 r := q_putf (mo_86 22 rfl) mow_86 rfl rfl (by decide +kernel) rfl
theorem r86_25 : Runs xs sl d 86 25 [some (.ref a0), l1, l2, l3] [] H r ↔ Runs xs sl d 86 26 [some (.ref a0), l1, l2, l3] [.ref a0] H r := q_aload_n (mo_86 25 rfl) rfl rfl
theorem r86_26 : Runs xs sl d 86 26 [l0, l1, l2, l3] [s0] H r ↔ Runs xs sl d 86 27 [l0, l1, l2, l3] [.int 0, s0] H r := q_iconst (mo_86 26 rfl) rfl rfl
theorem r86_27 : Runs xs sl d 86 27 [l0, l1, l2, l3] [.int u1, .ref b0] H r ↔ ∃ H1, hOw H b0 5 3 (.int u1) = some H1 ∧ Runs xs sl d 86 30 [l0, l1, l2, l3] [] H1 r := q_putf (mo_86 27 rfl) mow_86 rfl rfl (by decide +kernel) rfl
theorem r86_30 : Runs xs sl d 86 30 [some (.ref a0), l1, l2, l3] [] H r ↔ Runs xs sl d 86 31 [some (.ref a0), l1, l2, l3] [.ref a0] H r := q_aload_n (mo_86 30 rfl) rfl rfl
theorem r86_31 : Runs xs sl d 86 31 [l0, l1, l2, l3] [s0] H r ↔ Runs xs sl d 86 32 [l0, l1, l2, l3] [.int (-1), s0] H r := q_iconst (mo_86 31 rfl) rfl rfl
theorem r86_32 : Runs xs sl d 86 32 [l0, l1, l2, l3] [.int u1, .ref b0] H r ↔ ∃ H1, hOw H b0 5 4 (.int u1) = some H1 ∧ Runs xs sl d 86 35 [l0, l1, l2, l3] [] H1 r := q_putf (mo_86 32 rfl) mow_86 rfl rfl (by decide +kernel) rfl
theorem r86_35 : Runs xs sl d 86 35 [some (.ref a0), l1, l2, l3] [] H r ↔ Runs xs sl d 86 36 [some (.ref a0), l1, l2, l3] [.ref a0] H r := q_aload_n (mo_86 35 rfl) rfl rfl
theorem r86_36 : Runs xs sl d 86 36 [l0, l1, l2, l3] [s0] H r ↔ Runs xs sl d 86 37 [l0, l1, l2, l3] [.int (-1), s0] H r := q_iconst (mo_86 36 rfl) rfl rfl
theorem r86_37 : Runs xs sl d 86 37 [l0, l1, l2, l3] [.int u1, .ref b0] H r ↔ ∃ H1, hOw H b0 5 13 (.int u1) = some H1 ∧ Runs xs sl d 86 40 [l0, l1, l2, l3] [] H1 r := q_putf (mo_86 37 rfl) mow_86 rfl rfl (by decide +kernel) rfl
theorem r86_40 : Runs xs sl d 86 40 [some (.ref a0), l1, l2, l3] [] H r ↔ Runs xs sl d 86 41 [some (.ref a0), l1, l2, l3] [.ref a0] H r := q_aload_n (mo_86 40 rfl) rfl rfl
theorem r86_41 : Runs xs sl d 86 41 [l0, l1, l2, l3] [s0] H r ↔ Runs xs sl d 86 42 [l0, l1, l2, l3] [.int (-1), s0] H r := q_iconst (mo_86 41 rfl) rfl rfl
theorem r86_42 : Runs xs sl d 86 42 [l0, l1, l2, l3] [.int u1, .ref b0] H r ↔ ∃ H1, hOw H b0 5 14 (.int u1) = some H1 ∧ Runs xs sl d 86 45 [l0, l1, l2, l3] [] H1 r := q_putf (mo_86 42 rfl) mow_86 rfl rfl (by decide +kernel) rfl
theorem r86_45 : Runs xs sl d 86 45 [some (.ref a0), l1, l2, l3] [] H r ↔ Runs xs sl d 86 46 [some (.ref a0), l1, l2, l3] [.ref a0] H r := q_aload_n (mo_86 45 rfl) rfl rfl
theorem r86_46 : Runs xs sl d 86 46 [l0, l1, l2, l3] [.ref b0] H r ↔ ∃ v, hO H b0 5 0 = some v ∧ Runs xs sl d 86 49 [l0, l1, l2, l3] [v] H r := q_getf (mo_86 46 rfl) mow_86 rfl rfl
theorem r86_49 (hc : hC H b0 = some 8) : Runs xs sl (d + 1) 86 49 [l0, l1, l2, l3] [.ref b0] H r ↔ ∃ v H1, Runs xs sl d 149 0 [some (.ref b0)] [] H (v, H1) ∧ Runs xs sl (d + 1) 86 52 [l0, l1, l2, l3] (v.toList ++ []) H1 r := q_callV (M' := 149) (as := []) (rest := []) (mo_86 49 rfl) mow_86 rfl mcs_149 mmx_149 rfl (Nat.le_of_ble_eq_true rfl) (Nat.le_of_ble_eq_true rfl) rfl rfl hc
theorem r86_52 : Runs xs sl d 86 52 [some (.ref a0), l1, l2, l3] [] H r ↔ Runs xs sl d 86 53 [some (.ref a0), l1, l2, l3] [.ref a0] H r := q_aload_n (mo_86 52 rfl) rfl rfl
theorem r86_53 : Runs xs sl d 86 53 [l0, l1, l2, l3] [.ref b0] H r ↔ ∃ v, hO H b0 5 1 = some v ∧ Runs xs sl d 86 56 [l0, l1, l2, l3] [v] H r := q_getf (mo_86 53 rfl) mow_86 rfl rfl
theorem r86_56 (hc : hC H b0 = some 0) : Runs xs sl (d + 1) 86 56 [l0, l1, l2, l3] [.ref b0] H r ↔ ∃ v H1, Runs xs sl d 47 0 [some (.ref b0)] [] H (v, H1) ∧ Runs xs sl (d + 1) 86 59 [l0, l1, l2, l3] (v.toList ++ []) H1 r := q_callV (M' := 47) (as := []) (rest := []) (mo_86 56 rfl) mow_86 rfl mcs_47 mmx_47 rfl (Nat.le_of_ble_eq_true rfl) (Nat.le_of_ble_eq_true rfl) rfl rfl hc
theorem r86_59 : Runs xs sl d 86 59 [some (.ref a0), l1, l2, l3] [] H r ↔ Runs xs sl d 86 60 [some (.ref a0), l1, l2, l3] [.ref a0] H r := q_aload_n (mo_86 59 rfl) rfl rfl
theorem r86_60 : Runs xs sl d 86 60 [l0, l1, l2, l3] [.ref b0] H r ↔ ∃ v, hO H b0 5 2 = some v ∧ Runs xs sl d 86 63 [l0, l1, l2, l3] [v] H r := q_getf (mo_86 60 rfl) mow_86 rfl rfl
theorem r86_63 (hc : hC H b0 = some 4) : Runs xs sl (d + 1) 86 63 [l0, l1, l2, l3] [.ref b0] H r ↔ ∃ v H1, Runs xs sl d 82 0 [some (.ref b0)] [] H (v, H1) ∧ Runs xs sl (d + 1) 86 66 [l0, l1, l2, l3] (v.toList ++ []) H1 r := q_callV (M' := 82) (as := []) (rest := []) (mo_86 63 rfl) mow_86 rfl mcs_82 mmx_82 rfl (Nat.le_of_ble_eq_true rfl) (Nat.le_of_ble_eq_true rfl) rfl rfl hc
theorem r86_66 : Runs xs sl d 86 66 [some (.ref a0), l1, l2, l3] [] H r ↔ Runs xs sl d 86 67 [some (.ref a0), l1, l2, l3] [.ref a0] H r := q_aload_n (mo_86 66 rfl) rfl rfl
theorem r86_67 (hc : hC H b0 = some 5) : Runs xs sl (d + 1) 86 67 [l0, l1, l2, l3] [.ref b0] H r ↔ ∃ v H1, Runs xs sl d 87 0 [some (.ref b0), none] [] H (v, H1) ∧ Runs xs sl (d + 1) 86 70 [l0, l1, l2, l3] (v.toList ++ []) H1 r := q_callV (M' := 87) (as := []) (rest := []) (mo_86 67 rfl) mow_86 rfl mcs_87 mmx_87 rfl (Nat.le_of_ble_eq_true rfl) (Nat.le_of_ble_eq_true rfl) rfl rfl hc
theorem r86_70 : Runs xs sl d 86 70 [some (.ref a0), l1, l2, l3] [] H r ↔ Runs xs sl d 86 71 [some (.ref a0), l1, l2, l3] [.ref a0] H r := q_aload_n (mo_86 70 rfl) rfl rfl
theorem r86_71 : Runs xs sl d 86 71 [l0, l1, l2, l3] [.ref b0] H r ↔ ∃ v, hO H b0 5 3 = some v ∧ Runs xs sl d 86 74 [l0, l1, l2, l3] [v] H r := q_getf (mo_86 71 rfl) mow_86 rfl rfl
theorem r86_74 : Runs xs sl d 86 74 [l0, l1, l2, l3] [.int u0] H r ↔ if ¬ u0 = 0 then Runs xs sl d 86 81 [l0, l1, l2, l3] [] H r else Runs xs sl d 86 77 [l0, l1, l2, l3] [] H r := q_if_ne (mo_86 74 rfl) rfl rfl
theorem r86_77 : Runs xs sl d 86 77 [some (.ref a0), l1, l2, l3] [] H r ↔ Runs xs sl d 86 78 [some (.ref a0), l1, l2, l3] [.ref a0] H r := q_aload_n (mo_86 77 rfl) rfl rfl
theorem r86_78 (hc : hC H b0 = some 5) : Runs xs sl (d + 1) 86 78 [l0, l1, l2, l3] [.ref b0] H r ↔ ∃ v H1, Runs xs sl d 114 0 [some (.ref b0), none] [] H (v, H1) ∧ Runs xs sl (d + 1) 86 81 [l0, l1, l2, l3] (v.toList ++ []) H1 r := q_callV (M' := 114) (as := []) (rest := []) (mo_86 78 rfl) mow_86 rfl mcs_114 mmx_114 rfl (Nat.le_of_ble_eq_true rfl) (Nat.le_of_ble_eq_true rfl) rfl rfl hc
theorem r86_81 : Runs xs sl d 86 81 [l0, l1, l2, l3] [] H r ↔ r = (none, H) := q_ret (mo_86 81 rfl) mrt_86
theorem r87_0 : Runs xs sl d 87 0 [l0, l1] [] H r ↔ Runs xs sl d 87 1 [l0, l1] [.int 0] H r := q_iconst (mo_87 0 rfl) rfl rfl
theorem r87_1 : Runs xs sl d 87 1 [some (.ref a0), l1] [.int u0] H r ↔ Runs xs sl d 87 2 [some (.ref a0), some (.int u0)] [] H r := q_istore_n (mo_87 1 rfl) (Nat.le_of_ble_eq_true rfl) rfl rfl
theorem r87_1_1 : Runs xs sl d 87 1 [some .null, l1] [.int u0] H r ↔ Runs xs sl d 87 2 [some .null, some (.int u0)] [] H r := q_istore_n (mo_87 1 rfl) (Nat.le_of_ble_eq_true rfl) rfl rfl
theorem r87_2 : Runs xs sl d 87 2 [l0, some (.int i1)] [] H r ↔ Runs xs sl d 87 3 [l0, some (.int i1)] [.int i1] H r := q_iload_n (mo_87 2 rfl) rfl rfl
theorem r87_3 : Runs xs sl d 87 3 [some (.ref a0), l1] [s0] H r ↔ Runs xs sl d 87 4 [some (.ref a0), l1] [.ref a0, s0] H r := q_aload_n (mo_87 3 rfl) rfl rfl
theorem r87_4 : Runs xs sl d 87 4 [l0, l1] [.ref b1, s0] H r ↔ ∃ v, hO H b1 5 7 = some v ∧ Runs xs sl d 87 7 [l0, l1] [v, s0] H r := q_getf (mo_87 4 rfl) mow_87 rfl rfl
theorem r87_7 : Runs xs sl d 87 7 [l0, l1] [.int u1, .int u0] H r ↔ if u1 < u0 then Runs xs sl d 87 49 [l0, l1] [] H r else Runs xs sl d 87 10 [l0, l1] [] H r := q_icmp_gt (mo_87 7 rfl) rfl rfl
theorem r87_10 : Runs xs sl d 87 10 [some (.ref a0), l1] [] H r ↔ Runs xs sl d 87 11 [some (.ref a0), l1] [.ref a0] H r := q_aload_n (mo_87 10 rfl) rfl rfl
theorem r87_11 (hc : hC H b0 = some 5) : Runs xs sl (d + 1) 87 11 [l0, l1] [.ref b0] H r ↔ ∃ v H1, Runs xs sl d 88 0 [some (.ref b0)] [] H (v, H1) ∧ Runs xs sl (d + 1) 87 14 [l0, l1] (v.toList ++ []) H1 r := q_callV (M' := 88) (as := []) (rest := []) (mo_87 11 rfl) mow_87 rfl mcs_88 mmx_88 rfl (Nat.le_of_ble_eq_true rfl) (Nat.le_of_ble_eq_true rfl) rfl rfl hc
theorem r87_14 : Runs xs sl d 87 14 [some (.ref a0), l1] [] H r ↔ Runs xs sl d 87 15 [some (.ref a0), l1] [.ref a0] H r := q_aload_n (mo_87 14 rfl) rfl rfl
theorem r87_15 : Runs xs sl d 87 15 [l0, l1] [.ref b0] H r ↔ ∃ v, hO H b0 5 10 = some v ∧ Runs xs sl d 87 18 [l0, l1] [v] H r := q_getf (mo_87 15 rfl) mow_87 rfl rfl
theorem r87_18 : Runs xs sl d 87 18 [l0, l1] [.int u0] H r ↔ if ¬ u0 = 0 then Runs xs sl d 87 22 [l0, l1] [] H r else Runs xs sl d 87 21 [l0, l1] [] H r := q_if_ne (mo_87 18 rfl) rfl rfl
theorem r87_21 : Runs xs sl d 87 21 [l0, l1] [] H r ↔ r = (none, H) := q_ret (mo_87 21 rfl) mrt_87
theorem r87_22 : Runs xs sl d 87 22 [some (.ref a0), l1] [] H r ↔ Runs xs sl d 87 23 [some (.ref a0), l1] [.ref a0] H r := q_aload_n (mo_87 22 rfl) rfl rfl
theorem r87_23 (hc : hC H b0 = some 5) : Runs xs sl (d + 1) 87 23 [l0, l1] [.ref b0] H r ↔ ∃ v H1, Runs xs sl d 94 0 [some (.ref b0), none, none, none] [] H (v, H1) ∧ Runs xs sl (d + 1) 87 26 [l0, l1] (v.toList ++ []) H1 r := q_callV (M' := 94) (as := []) (rest := []) (mo_87 23 rfl) mow_87 rfl mcs_94 mmx_94 rfl (Nat.le_of_ble_eq_true rfl) (Nat.le_of_ble_eq_true rfl) rfl rfl hc
theorem r87_26 : Runs xs sl d 87 26 [l0, l1] [.int u0] H r ↔ if ¬ u0 = 0 then Runs xs sl d 87 43 [l0, l1] [] H r else Runs xs sl d 87 29 [l0, l1] [] H r := q_if_ne (mo_87 26 rfl) rfl rfl
theorem r87_29 : Runs xs sl d 87 29 [some (.ref a0), l1] [] H r ↔ Runs xs sl d 87 30 [some (.ref a0), l1] [.ref a0] H r := q_aload_n (mo_87 29 rfl) rfl rfl
theorem r87_30 : Runs xs sl d 87 30 [l0, l1] [s0] H r ↔ Runs xs sl d 87 31 [l0, l1] [.int 1, s0] H r := q_iconst (mo_87 30 rfl) rfl rfl
theorem r87_31 : Runs xs sl d 87 31 [l0, l1] [.int u1, .ref b0] H r ↔ ∃ H1, hOw H b0 5 3 (.int u1) = some H1 ∧ Runs xs sl d 87 34 [l0, l1] [] H1 r := q_putf (mo_87 31 rfl) mow_87 rfl rfl (by decide +kernel) rfl
theorem r87_34 : Runs xs sl d 87 34 [some (.ref a0), l1] [] H r ↔ Runs xs sl d 87 35 [some (.ref a0), l1] [.ref a0] H r := q_aload_n (mo_87 34 rfl) rfl rfl
theorem r87_35 : Runs xs sl d 87 35 [some (.ref a0), l1] [s0] H r ↔ Runs xs sl d 87 36 [some (.ref a0), l1] [.ref a0, s0] H r := q_aload_n (mo_87 35 rfl) rfl rfl
theorem r87_36 : Runs xs sl d 87 36 [l0, l1] [.ref b1, s0] H r ↔ ∃ v, hO H b1 5 11 = some v ∧ Runs xs sl d 87 39 [l0, l1] [v, s0] H r := q_getf (mo_87 36 rfl) mow_87 rfl rfl
theorem r87_39 : Runs xs sl d 87 39 [l0, l1] [.int u1, .ref b0] H r ↔ ∃ H1, hOw H b0 5 4 (.int u1) = some H1 ∧ Runs xs sl d 87 42 [l0, l1] [] H1 r := q_putf (mo_87 39 rfl) mow_87 rfl rfl (by decide +kernel) rfl
theorem r87_42 : Runs xs sl d 87 42 [l0, l1] [] H r ↔ r = (none, H) := q_ret (mo_87 42 rfl) mrt_87
theorem r87_43 : Runs xs sl d 87 43 [some (.ref a0), some (.int i1)] [] H r ↔ Runs xs sl d 87 46 [some (.ref a0), some (.int (i1 + 1))] [] H r := q_iinc (mo_87 43 rfl) rfl (Nat.le_of_ble_eq_true rfl) rfl rfl
theorem r87_43_1 : Runs xs sl d 87 43 [some .null, some (.int i1)] [] H r ↔ Runs xs sl d 87 46 [some .null, some (.int (i1 + 1))] [] H r := q_iinc (mo_87 43 rfl) rfl (Nat.le_of_ble_eq_true rfl) rfl rfl
theorem r87_46 : Runs xs sl d 87 46 [l0, l1] [] H r ↔ Runs xs sl d 87 2 [l0, l1] [] H r := q_goto (mo_87 46 rfl) rfl
theorem r87_49 : Runs xs sl d 87 49 [l0, l1] [] H r ↔ r = (none, H) := q_ret (mo_87 49 rfl) mrt_87
theorem r88_0 : Runs xs sl d 88 0 [some (.ref a0)] [] H r ↔ Runs xs sl d 88 1 [some (.ref a0)] [.ref a0] H r := q_aload_n (mo_88 0 rfl) rfl rfl
theorem r88_1 : Runs xs sl d 88 1 [l0] [.ref b0] H r ↔ ∃ v, hO H b0 5 9 = some v ∧ Runs xs sl d 88 4 [l0] [v] H r := q_getf (mo_88 1 rfl) mow_88 rfl rfl
theorem r88_4 : Runs xs sl d 88 4 [some (.ref a0)] [s0] H r ↔ Runs xs sl d 88 5 [some (.ref a0)] [.ref a0, s0] H r := q_aload_n (mo_88 4 rfl) rfl rfl
theorem r88_5 : Runs xs sl d 88 5 [l0] [.ref b1, s0] H r ↔ ∃ v, hO H b1 5 7 = some v ∧ Runs xs sl d 88 8 [l0] [v, s0] H r := q_getf (mo_88 5 rfl) mow_88 rfl rfl
theorem r88_8 : Runs xs sl d 88 8 [l0] [.int u1, .int u0] H r ↔ if u1 ≤ u0 then Runs xs sl d 88 52 [l0] [] H r else Runs xs sl d 88 11 [l0] [] H r := q_icmp_ge (mo_88 8 rfl) rfl rfl
theorem r88_11 : Runs xs sl d 88 11 [some (.ref a0)] [] H r ↔ Runs xs sl d 88 12 [some (.ref a0)] [.ref a0] H r := q_aload_n (mo_88 11 rfl) rfl rfl
theorem r88_12 : Runs xs sl d 88 12 [l0] [.ref b0] H r ↔ ∃ v, hO H b0 5 6 = some v ∧ Runs xs sl d 88 15 [l0] [v] H r := q_getf (mo_88 12 rfl) mow_88 rfl rfl
theorem r88_15 : Runs xs sl d 88 15 [some (.ref a0)] [s0] H r ↔ Runs xs sl d 88 16 [some (.ref a0)] [.ref a0, s0] H r := q_aload_n (mo_88 15 rfl) rfl rfl
theorem r88_16 : Runs xs sl d 88 16 [l0] [.ref b1, s0] H r ↔ ∃ v, hO H b1 5 9 = some v ∧ Runs xs sl d 88 19 [l0] [v, s0] H r := q_getf (mo_88 16 rfl) mow_88 rfl rfl
theorem r88_19 : Runs xs sl d 88 19 [l0] [.int u1, .ref b0] H r ↔ ∃ v, hB H b0 u1 = some v ∧ Runs xs sl d 88 20 [l0] [.int v] H r := run_bald (mo_88 19 rfl) rfl
theorem r88_20 : Runs xs sl d 88 20 [l0] [s0] H r ↔ Runs xs sl d 88 22 [l0] [.int 32, s0] H r := q_bipush (mo_88 20 rfl) rfl rfl
theorem r88_22 : Runs xs sl d 88 22 [l0] [.int u1, .int u0] H r ↔ if u0 = u1 then Runs xs sl d 88 39 [l0] [] H r else Runs xs sl d 88 25 [l0] [] H r := q_icmp_eq (mo_88 22 rfl) rfl rfl
theorem r88_25 : Runs xs sl d 88 25 [some (.ref a0)] [] H r ↔ Runs xs sl d 88 26 [some (.ref a0)] [.ref a0] H r := q_aload_n (mo_88 25 rfl) rfl rfl
theorem r88_26 : Runs xs sl d 88 26 [l0] [.ref b0] H r ↔ ∃ v, hO H b0 5 6 = some v ∧ Runs xs sl d 88 29 [l0] [v] H r := q_getf (mo_88 26 rfl) mow_88 rfl rfl
theorem r88_29 : Runs xs sl d 88 29 [some (.ref a0)] [s0] H r ↔ Runs xs sl d 88 30 [some (.ref a0)] [.ref a0, s0] H r := q_aload_n (mo_88 29 rfl) rfl rfl
theorem r88_30 : Runs xs sl d 88 30 [l0] [.ref b1, s0] H r ↔ ∃ v, hO H b1 5 9 = some v ∧ Runs xs sl d 88 33 [l0] [v, s0] H r := q_getf (mo_88 30 rfl) mow_88 rfl rfl
theorem r88_33 : Runs xs sl d 88 33 [l0] [.int u1, .ref b0] H r ↔ ∃ v, hB H b0 u1 = some v ∧ Runs xs sl d 88 34 [l0] [.int v] H r := run_bald (mo_88 33 rfl) rfl
theorem r88_34 : Runs xs sl d 88 34 [l0] [s0] H r ↔ Runs xs sl d 88 36 [l0] [.int 10, s0] H r := q_bipush (mo_88 34 rfl) rfl rfl
theorem r88_36 : Runs xs sl d 88 36 [l0] [.int u1, .int u0] H r ↔ if ¬ u0 = u1 then Runs xs sl d 88 52 [l0] [] H r else Runs xs sl d 88 39 [l0] [] H r := q_icmp_ne (mo_88 36 rfl) rfl rfl
theorem r88_39 : Runs xs sl d 88 39 [some (.ref a0)] [] H r ↔ Runs xs sl d 88 40 [some (.ref a0)] [.ref a0] H r := q_aload_n (mo_88 39 rfl) rfl rfl
theorem r88_40 : Runs xs sl d 88 40 [l0] [.ref b0] H r ↔ Runs xs sl d 88 41 [l0] [.ref b0, .ref b0] H r := q_dup (mo_88 40 rfl) rfl rfl
theorem r88_41 : Runs xs sl d 88 41 [l0] [.ref b1, s0] H r ↔ ∃ v, hO H b1 5 9 = some v ∧ Runs xs sl d 88 44 [l0] [v, s0] H r := q_getf (mo_88 41 rfl) mow_88 rfl rfl
theorem r88_44 : Runs xs sl d 88 44 [l0] [s1, s0] H r ↔ Runs xs sl d 88 45 [l0] [.int 1, s1, s0] H r := q_iconst (mo_88 44 rfl) rfl rfl
theorem r88_45 : Runs xs sl d 88 45 [l0] [.int u2, .int u1, s0] H r ↔ Runs xs sl d 88 46 [l0] [.int (u1 + u2), s0] H r := q_iadd (mo_88 45 rfl) rfl
theorem r88_46 : Runs xs sl d 88 46 [l0] [.int u1, .ref b0] H r ↔ ∃ H1, hOw H b0 5 9 (.int u1) = some H1 ∧ Runs xs sl d 88 49 [l0] [] H1 r := q_putf (mo_88 46 rfl) mow_88 rfl rfl (by decide +kernel) rfl
theorem r88_49 : Runs xs sl d 88 49 [l0] [] H r ↔ Runs xs sl d 88 0 [l0] [] H r := q_goto (mo_88 49 rfl) rfl
theorem r88_52 : Runs xs sl d 88 52 [some (.ref a0)] [] H r ↔ Runs xs sl d 88 53 [some (.ref a0)] [.ref a0] H r := q_aload_n (mo_88 52 rfl) rfl rfl
theorem r88_53 : Runs xs sl d 88 53 [some (.ref a0)] [s0] H r ↔ Runs xs sl d 88 54 [some (.ref a0)] [.ref a0, s0] H r := q_aload_n (mo_88 53 rfl) rfl rfl
theorem r88_54 : Runs xs sl d 88 54 [l0] [.ref b1, s0] H r ↔ ∃ v, hO H b1 5 9 = some v ∧ Runs xs sl d 88 57 [l0] [v, s0] H r := q_getf (mo_88 54 rfl) mow_88 rfl rfl
theorem r88_57 : Runs xs sl d 88 57 [l0] [.int u1, .ref b0] H r ↔ ∃ H1, hOw H b0 5 11 (.int u1) = some H1 ∧ Runs xs sl d 88 60 [l0] [] H1 r := q_putf (mo_88 57 rfl) mow_88 rfl rfl (by decide +kernel) rfl
theorem r88_60 : Runs xs sl d 88 60 [some (.ref a0)] [] H r ↔ Runs xs sl d 88 61 [some (.ref a0)] [.ref a0] H r := q_aload_n (mo_88 60 rfl) rfl rfl
theorem r88_61 : Runs xs sl d 88 61 [l0] [s0] H r ↔ Runs xs sl d 88 62 [l0] [.int (-1), s0] H r := q_iconst (mo_88 61 rfl) rfl rfl
theorem r88_62 : Runs xs sl d 88 62 [l0] [.int u1, .ref b0] H r ↔ ∃ H1, hOw H b0 5 12 (.int u1) = some H1 ∧ Runs xs sl d 88 65 [l0] [] H1 r := q_putf (mo_88 62 rfl) mow_88 rfl rfl (by decide +kernel) rfl
theorem r88_65 : Runs xs sl d 88 65 [some (.ref a0)] [] H r ↔ Runs xs sl d 88 66 [some (.ref a0)] [.ref a0] H r := q_aload_n (mo_88 65 rfl) rfl rfl
theorem r88_66 : Runs xs sl d 88 66 [l0] [s0] H r ↔ Runs xs sl d 88 67 [l0] [.int 4, s0] H r := q_iconst (mo_88 66 rfl) rfl rfl
theorem r88_67 : Runs xs sl d 88 67 [l0] [.int u1, .ref b0] H r ↔ ∃ H1, hOw H b0 5 10 (.int u1) = some H1 ∧ Runs xs sl d 88 70 [l0] [] H1 r := q_putf (mo_88 67 rfl) mow_88 rfl rfl (by decide +kernel) rfl
theorem r88_70 : Runs xs sl d 88 70 [some (.ref a0)] [] H r ↔ Runs xs sl d 88 71 [some (.ref a0)] [.ref a0] H r := q_aload_n (mo_88 70 rfl) rfl rfl
theorem r88_71 : Runs xs sl d 88 71 [l0] [.ref b0] H r ↔ ∃ v, hO H b0 5 9 = some v ∧ Runs xs sl d 88 74 [l0] [v] H r := q_getf (mo_88 71 rfl) mow_88 rfl rfl
theorem r88_74 : Runs xs sl d 88 74 [some (.ref a0)] [s0] H r ↔ Runs xs sl d 88 75 [some (.ref a0)] [.ref a0, s0] H r := q_aload_n (mo_88 74 rfl) rfl rfl
theorem r88_75 : Runs xs sl d 88 75 [l0] [.ref b1, s0] H r ↔ ∃ v, hO H b1 5 7 = some v ∧ Runs xs sl d 88 78 [l0] [v, s0] H r := q_getf (mo_88 75 rfl) mow_88 rfl rfl
theorem r88_78 : Runs xs sl d 88 78 [l0] [.int u1, .int u0] H r ↔ if u0 < u1 then Runs xs sl d 88 89 [l0] [] H r else Runs xs sl d 88 81 [l0] [] H r := q_icmp_lt (mo_88 78 rfl) rfl rfl
theorem r88_81 : Runs xs sl d 88 81 [some (.ref a0)] [] H r ↔ Runs xs sl d 88 82 [some (.ref a0)] [.ref a0] H r := q_aload_n (mo_88 81 rfl) rfl rfl
theorem r88_82 : Runs xs sl d 88 82 [l0] [s0] H r ↔ Runs xs sl d 88 83 [l0] [.int 0, s0] H r := q_iconst (mo_88 82 rfl) rfl rfl
theorem r88_83 : Runs xs sl d 88 83 [l0] [.int u1, .ref b0] H r ↔ ∃ H1, hOw H b0 5 10 (.int u1) = some H1 ∧ Runs xs sl d 88 86 [l0] [] H1 r := q_putf (mo_88 83 rfl) mow_88 rfl rfl (by decide +kernel) rfl
theorem r88_86 : Runs xs sl d 88 86 [l0] [] H r ↔ Runs xs sl d 88 162 [l0] [] H r := q_goto (mo_88 86 rfl) rfl
theorem r88_89 : Runs xs sl d 88 89 [some (.ref a0)] [] H r ↔ Runs xs sl d 88 90 [some (.ref a0)] [.ref a0] H r := q_aload_n (mo_88 89 rfl) rfl rfl
theorem r88_90 : Runs xs sl d 88 90 [l0] [.ref b0] H r ↔ ∃ v, hO H b0 5 6 = some v ∧ Runs xs sl d 88 93 [l0] [v] H r := q_getf (mo_88 90 rfl) mow_88 rfl rfl
theorem r88_93 : Runs xs sl d 88 93 [some (.ref a0)] [s0] H r ↔ Runs xs sl d 88 94 [some (.ref a0)] [.ref a0, s0] H r := q_aload_n (mo_88 93 rfl) rfl rfl
theorem r88_94 : Runs xs sl d 88 94 [l0] [.ref b1, s0] H r ↔ ∃ v, hO H b1 5 9 = some v ∧ Runs xs sl d 88 97 [l0] [v, s0] H r := q_getf (mo_88 94 rfl) mow_88 rfl rfl
theorem r88_97 : Runs xs sl d 88 97 [l0] [.int u1, .ref b0] H r ↔ ∃ v, hB H b0 u1 = some v ∧ Runs xs sl d 88 98 [l0] [.int v] H r := run_bald (mo_88 97 rfl) rfl
theorem r88_98 : Runs xs sl d 88 98 [l0] [s0] H r ↔ Runs xs sl d 88 100 [l0] [.int 59, s0] H r := q_bipush (mo_88 98 rfl) rfl rfl
theorem r88_100 : Runs xs sl d 88 100 [l0] [.int u1, .int u0] H r ↔ if ¬ u0 = u1 then Runs xs sl d 88 121 [l0] [] H r else Runs xs sl d 88 103 [l0] [] H r := q_icmp_ne (mo_88 100 rfl) rfl rfl
theorem r88_103 : Runs xs sl d 88 103 [some (.ref a0)] [] H r ↔ Runs xs sl d 88 104 [some (.ref a0)] [.ref a0] H r := q_aload_n (mo_88 103 rfl) rfl rfl
theorem r88_104 : Runs xs sl d 88 104 [l0] [.ref b0] H r ↔ Runs xs sl d 88 105 [l0] [.ref b0, .ref b0] H r := q_dup (mo_88 104 rfl) rfl rfl
theorem r88_105 : Runs xs sl d 88 105 [l0] [.ref b1, s0] H r ↔ ∃ v, hO H b1 5 9 = some v ∧ Runs xs sl d 88 108 [l0] [v, s0] H r := q_getf (mo_88 105 rfl) mow_88 rfl rfl
theorem r88_108 : Runs xs sl d 88 108 [l0] [s1, s0] H r ↔ Runs xs sl d 88 109 [l0] [.int 1, s1, s0] H r := q_iconst (mo_88 108 rfl) rfl rfl
theorem r88_109 : Runs xs sl d 88 109 [l0] [.int u2, .int u1, s0] H r ↔ Runs xs sl d 88 110 [l0] [.int (u1 + u2), s0] H r := q_iadd (mo_88 109 rfl) rfl
theorem r88_110 : Runs xs sl d 88 110 [l0] [.int u1, .ref b0] H r ↔ ∃ H1, hOw H b0 5 9 (.int u1) = some H1 ∧ Runs xs sl d 88 113 [l0] [] H1 r := q_putf (mo_88 110 rfl) mow_88 rfl rfl (by decide +kernel) rfl
theorem r88_113 : Runs xs sl d 88 113 [some (.ref a0)] [] H r ↔ Runs xs sl d 88 114 [some (.ref a0)] [.ref a0] H r := q_aload_n (mo_88 113 rfl) rfl rfl
theorem r88_114 : Runs xs sl d 88 114 [l0] [s0] H r ↔ Runs xs sl d 88 115 [l0] [.int 1, s0] H r := q_iconst (mo_88 114 rfl) rfl rfl
theorem r88_115 : Runs xs sl d 88 115 [l0] [.int u1, .ref b0] H r ↔ ∃ H1, hOw H b0 5 10 (.int u1) = some H1 ∧ Runs xs sl d 88 118 [l0] [] H1 r := q_putf (mo_88 115 rfl) mow_88 rfl rfl (by decide +kernel) rfl
theorem r88_118 : Runs xs sl d 88 118 [l0] [] H r ↔ Runs xs sl d 88 162 [l0] [] H r := q_goto (mo_88 118 rfl) rfl
theorem r88_121 : Runs xs sl d 88 121 [some (.ref a0)] [] H r ↔ Runs xs sl d 88 122 [some (.ref a0)] [.ref a0] H r := q_aload_n (mo_88 121 rfl) rfl rfl
theorem r88_122 : Runs xs sl d 88 122 [l0] [.ref b0] H r ↔ ∃ v, hO H b0 5 6 = some v ∧ Runs xs sl d 88 125 [l0] [v] H r := q_getf (mo_88 122 rfl) mow_88 rfl rfl
theorem r88_125 : Runs xs sl d 88 125 [some (.ref a0)] [s0] H r ↔ Runs xs sl d 88 126 [some (.ref a0)] [.ref a0, s0] H r := q_aload_n (mo_88 125 rfl) rfl rfl
theorem r88_126 : Runs xs sl d 88 126 [l0] [.ref b1, s0] H r ↔ ∃ v, hO H b1 5 9 = some v ∧ Runs xs sl d 88 129 [l0] [v, s0] H r := q_getf (mo_88 126 rfl) mow_88 rfl rfl
theorem r88_129 : Runs xs sl d 88 129 [l0] [.int u1, .ref b0] H r ↔ ∃ v, hB H b0 u1 = some v ∧ Runs xs sl d 88 130 [l0] [.int v] H r := run_bald (mo_88 129 rfl) rfl
theorem r88_130 : Runs xs sl (d + 1) 88 130 [l0] [.int u0] H r ↔ ∃ v H1, Runs xs sl d 89 0 [some (.int u0)] [] H (v, H1) ∧ Runs xs sl (d + 1) 88 133 [l0] (v.toList ++ []) H1 r := q_callS (M' := 89) (as := [.int u0]) (rest := []) (mo_88 130 rfl) mow_88 rfl mmx_89 rfl (Nat.le_of_ble_eq_true rfl) (Nat.le_of_ble_eq_true rfl) rfl rfl
theorem r88_133 : Runs xs sl d 88 133 [l0] [.int u0] H r ↔ if u0 = 0 then Runs xs sl d 88 143 [l0] [] H r else Runs xs sl d 88 136 [l0] [] H r := q_if_eq (mo_88 133 rfl) rfl rfl
theorem r88_136 : Runs xs sl d 88 136 [some (.ref a0)] [] H r ↔ Runs xs sl d 88 137 [some (.ref a0)] [.ref a0] H r := q_aload_n (mo_88 136 rfl) rfl rfl
theorem r88_137 (hc : hC H b0 = some 5) : Runs xs sl (d + 1) 88 137 [l0] [.ref b0] H r ↔ ∃ v H1, Runs xs sl d 90 0 [some (.ref b0), none] [] H (v, H1) ∧ Runs xs sl (d + 1) 88 140 [l0] (v.toList ++ []) H1 r := q_callV (M' := 90) (as := []) (rest := []) (mo_88 137 rfl) mow_88 rfl mcs_90 mmx_90 rfl (Nat.le_of_ble_eq_true rfl) (Nat.le_of_ble_eq_true rfl) rfl rfl hc
theorem r88_140 : Runs xs sl d 88 140 [l0] [] H r ↔ Runs xs sl d 88 162 [l0] [] H r := q_goto (mo_88 140 rfl) rfl
theorem r88_143 : Runs xs sl d 88 143 [some (.ref a0)] [] H r ↔ Runs xs sl d 88 144 [some (.ref a0)] [.ref a0] H r := q_aload_n (mo_88 143 rfl) rfl rfl
theorem r88_144 : Runs xs sl d 88 144 [l0] [.ref b0] H r ↔ ∃ v, hO H b0 5 6 = some v ∧ Runs xs sl d 88 147 [l0] [v] H r := q_getf (mo_88 144 rfl) mow_88 rfl rfl
theorem r88_147 : Runs xs sl d 88 147 [some (.ref a0)] [s0] H r ↔ Runs xs sl d 88 148 [some (.ref a0)] [.ref a0, s0] H r := q_aload_n (mo_88 147 rfl) rfl rfl
theorem r88_148 : Runs xs sl d 88 148 [l0] [.ref b1, s0] H r ↔ ∃ v, hO H b1 5 9 = some v ∧ Runs xs sl d 88 151 [l0] [v, s0] H r := q_getf (mo_88 148 rfl) mow_88 rfl rfl
theorem r88_151 : Runs xs sl d 88 151 [l0] [.int u1, .ref b0] H r ↔ ∃ v, hB H b0 u1 = some v ∧ Runs xs sl d 88 152 [l0] [.int v] H r := run_bald (mo_88 151 rfl) rfl
theorem r88_152 : Runs xs sl (d + 1) 88 152 [l0] [.int u0] H r ↔ ∃ v H1, Runs xs sl d 91 0 [some (.int u0)] [] H (v, H1) ∧ Runs xs sl (d + 1) 88 155 [l0] (v.toList ++ []) H1 r := q_callS (M' := 91) (as := [.int u0]) (rest := []) (mo_88 152 rfl) mow_88 rfl mmx_91 rfl (Nat.le_of_ble_eq_true rfl) (Nat.le_of_ble_eq_true rfl) rfl rfl
theorem r88_155 : Runs xs sl d 88 155 [l0] [.int u0] H r ↔ if u0 = 0 then Runs xs sl d 88 162 [l0] [] H r else Runs xs sl d 88 158 [l0] [] H r := q_if_eq (mo_88 155 rfl) rfl rfl
theorem r88_158 : Runs xs sl d 88 158 [some (.ref a0)] [] H r ↔ Runs xs sl d 88 159 [some (.ref a0)] [.ref a0] H r := q_aload_n (mo_88 158 rfl) rfl rfl
theorem r88_159 (hc : hC H b0 = some 5) : Runs xs sl (d + 1) 88 159 [l0] [.ref b0] H r ↔ ∃ v H1, Runs xs sl d 92 0 [some (.ref b0), none, none, none] [] H (v, H1) ∧ Runs xs sl (d + 1) 88 162 [l0] (v.toList ++ []) H1 r := q_callV (M' := 92) (as := []) (rest := []) (mo_88 159 rfl) mow_88 rfl mcs_92 mmx_92 rfl (Nat.le_of_ble_eq_true rfl) (Nat.le_of_ble_eq_true rfl) rfl rfl hc
theorem r88_162 : Runs xs sl d 88 162 [l0] [] H r ↔ r = (none, H) := q_ret (mo_88 162 rfl) mrt_88
theorem r89_0 : Runs xs sl d 89 0 [some (.int i0)] [] H r ↔ Runs xs sl d 89 1 [some (.int i0)] [.int i0] H r := q_iload_n (mo_89 0 rfl) rfl rfl
theorem r89_1 : Runs xs sl d 89 1 [l0] [s0] H r ↔ Runs xs sl d 89 3 [l0] [.int 48, s0] H r := q_bipush (mo_89 1 rfl) rfl rfl
theorem r89_3 : Runs xs sl d 89 3 [l0] [.int u1, .int u0] H r ↔ if u0 < u1 then Runs xs sl d 89 16 [l0] [] H r else Runs xs sl d 89 6 [l0] [] H r := q_icmp_lt (mo_89 3 rfl) rfl rfl
theorem r89_6 : Runs xs sl d 89 6 [some (.int i0)] [] H r ↔ Runs xs sl d 89 7 [some (.int i0)] [.int i0] H r := q_iload_n (mo_89 6 rfl) rfl rfl
theorem r89_7 : Runs xs sl d 89 7 [l0] [s0] H r ↔ Runs xs sl d 89 9 [l0] [.int 57, s0] H r := q_bipush (mo_89 7 rfl) rfl rfl
theorem r89_9 : Runs xs sl d 89 9 [l0] [.int u1, .int u0] H r ↔ if u1 < u0 then Runs xs sl d 89 16 [l0] [] H r else Runs xs sl d 89 12 [l0] [] H r := q_icmp_gt (mo_89 9 rfl) rfl rfl
theorem r89_12 : Runs xs sl d 89 12 [l0] [] H r ↔ Runs xs sl d 89 13 [l0] [.int 1] H r := q_iconst (mo_89 12 rfl) rfl rfl
theorem r89_13 : Runs xs sl d 89 13 [l0] [s0] H r ↔ Runs xs sl d 89 17 [l0] [s0] H r := q_goto (mo_89 13 rfl) rfl
theorem r89_16 : Runs xs sl d 89 16 [l0] [] H r ↔ Runs xs sl d 89 17 [l0] [.int 0] H r := q_iconst (mo_89 16 rfl) rfl rfl
theorem r89_17 (h : u0 = 0 ∨ u0 = 1) : Runs xs sl d 89 17 [l0] [.int u0] H r ↔ r = (some (.int u0), H) := q_zret (mo_89 17 rfl) mrt_89 h
theorem r90_0 : Runs xs sl d 90 0 [some (.ref a0), l1] [] H r ↔ Runs xs sl d 90 1 [some (.ref a0), l1] [.ref a0] H r := q_aload_n (mo_90 0 rfl) rfl rfl
theorem r90_1 : Runs xs sl d 90 1 [l0, l1] [.ref b0] H r ↔ ∃ v, hO H b0 5 9 = some v ∧ Runs xs sl d 90 4 [l0, l1] [v] H r := q_getf (mo_90 1 rfl) mow_90 rfl rfl
theorem r90_4 : Runs xs sl d 90 4 [some (.ref a0), l1] [s0] H r ↔ Runs xs sl d 90 5 [some (.ref a0), l1] [.ref a0, s0] H r := q_aload_n (mo_90 4 rfl) rfl rfl
theorem r90_5 : Runs xs sl d 90 5 [l0, l1] [.ref b1, s0] H r ↔ ∃ v, hO H b1 5 7 = some v ∧ Runs xs sl d 90 8 [l0, l1] [v, s0] H r := q_getf (mo_90 5 rfl) mow_90 rfl rfl
theorem r90_8 : Runs xs sl d 90 8 [l0, l1] [.int u1, .int u0] H r ↔ if u1 ≤ u0 then Runs xs sl d 90 39 [l0, l1] [] H r else Runs xs sl d 90 11 [l0, l1] [] H r := q_icmp_ge (mo_90 8 rfl) rfl rfl
theorem r90_11 : Runs xs sl d 90 11 [some (.ref a0), l1] [] H r ↔ Runs xs sl d 90 12 [some (.ref a0), l1] [.ref a0] H r := q_aload_n (mo_90 11 rfl) rfl rfl
theorem r90_12 : Runs xs sl d 90 12 [l0, l1] [.ref b0] H r ↔ ∃ v, hO H b0 5 6 = some v ∧ Runs xs sl d 90 15 [l0, l1] [v] H r := q_getf (mo_90 12 rfl) mow_90 rfl rfl
theorem r90_15 : Runs xs sl d 90 15 [some (.ref a0), l1] [s0] H r ↔ Runs xs sl d 90 16 [some (.ref a0), l1] [.ref a0, s0] H r := q_aload_n (mo_90 15 rfl) rfl rfl
theorem r90_16 : Runs xs sl d 90 16 [l0, l1] [.ref b1, s0] H r ↔ ∃ v, hO H b1 5 9 = some v ∧ Runs xs sl d 90 19 [l0, l1] [v, s0] H r := q_getf (mo_90 16 rfl) mow_90 rfl rfl
theorem r90_19 : Runs xs sl d 90 19 [l0, l1] [.int u1, .ref b0] H r ↔ ∃ v, hB H b0 u1 = some v ∧ Runs xs sl d 90 20 [l0, l1] [.int v] H r := run_bald (mo_90 19 rfl) rfl
theorem r90_20 : Runs xs sl (d + 1) 90 20 [l0, l1] [.int u0] H r ↔ ∃ v H1, Runs xs sl d 89 0 [some (.int u0)] [] H (v, H1) ∧ Runs xs sl (d + 1) 90 23 [l0, l1] (v.toList ++ []) H1 r := q_callS (M' := 89) (as := [.int u0]) (rest := []) (mo_90 20 rfl) mow_90 rfl mmx_89 rfl (Nat.le_of_ble_eq_true rfl) (Nat.le_of_ble_eq_true rfl) rfl rfl
theorem r90_23 : Runs xs sl d 90 23 [l0, l1] [.int u0] H r ↔ if u0 = 0 then Runs xs sl d 90 39 [l0, l1] [] H r else Runs xs sl d 90 26 [l0, l1] [] H r := q_if_eq (mo_90 23 rfl) rfl rfl
theorem r90_26 : Runs xs sl d 90 26 [some (.ref a0), l1] [] H r ↔ Runs xs sl d 90 27 [some (.ref a0), l1] [.ref a0] H r := q_aload_n (mo_90 26 rfl) rfl rfl
theorem r90_27 : Runs xs sl d 90 27 [l0, l1] [.ref b0] H r ↔ Runs xs sl d 90 28 [l0, l1] [.ref b0, .ref b0] H r := q_dup (mo_90 27 rfl) rfl rfl
theorem r90_28 : Runs xs sl d 90 28 [l0, l1] [.ref b1, s0] H r ↔ ∃ v, hO H b1 5 9 = some v ∧ Runs xs sl d 90 31 [l0, l1] [v, s0] H r := q_getf (mo_90 28 rfl) mow_90 rfl rfl
theorem r90_31 : Runs xs sl d 90 31 [l0, l1] [s1, s0] H r ↔ Runs xs sl d 90 32 [l0, l1] [.int 1, s1, s0] H r := q_iconst (mo_90 31 rfl) rfl rfl
theorem r90_32 : Runs xs sl d 90 32 [l0, l1] [.int u2, .int u1, s0] H r ↔ Runs xs sl d 90 33 [l0, l1] [.int (u1 + u2), s0] H r := q_iadd (mo_90 32 rfl) rfl
theorem r90_33 : Runs xs sl d 90 33 [l0, l1] [.int u1, .ref b0] H r ↔ ∃ H1, hOw H b0 5 9 (.int u1) = some H1 ∧ Runs xs sl d 90 36 [l0, l1] [] H1 r := q_putf (mo_90 33 rfl) mow_90 rfl rfl (by decide +kernel) rfl
theorem r90_36 : Runs xs sl d 90 36 [l0, l1] [] H r ↔ Runs xs sl d 90 0 [l0, l1] [] H r := q_goto (mo_90 36 rfl) rfl
theorem r90_39 : Runs xs sl d 90 39 [some (.ref a0), l1] [] H r ↔ Runs xs sl d 90 40 [some (.ref a0), l1] [.ref a0] H r := q_aload_n (mo_90 39 rfl) rfl rfl
theorem r90_40 : Runs xs sl d 90 40 [l0, l1] [.ref b0] H r ↔ ∃ v, hO H b0 5 9 = some v ∧ Runs xs sl d 90 43 [l0, l1] [v] H r := q_getf (mo_90 40 rfl) mow_90 rfl rfl
theorem r90_43 : Runs xs sl d 90 43 [some (.ref a0), l1] [s0] H r ↔ Runs xs sl d 90 44 [some (.ref a0), l1] [.ref a0, s0] H r := q_aload_n (mo_90 43 rfl) rfl rfl
theorem r90_44 : Runs xs sl d 90 44 [l0, l1] [.ref b1, s0] H r ↔ ∃ v, hO H b1 5 11 = some v ∧ Runs xs sl d 90 47 [l0, l1] [v, s0] H r := q_getf (mo_90 44 rfl) mow_90 rfl rfl
theorem r90_47 : Runs xs sl d 90 47 [l0, l1] [.int u1, .int u0] H r ↔ Runs xs sl d 90 48 [l0, l1] [.int (u0 - u1)] H r := q_isub (mo_90 47 rfl) rfl
theorem r90_48 : Runs xs sl d 90 48 [l0, l1] [s0] H r ↔ Runs xs sl d 90 49 [l0, l1] [.int 2, s0] H r := q_iconst (mo_90 48 rfl) rfl rfl
theorem r90_49 : Runs xs sl d 90 49 [l0, l1] [.int u1, .int u0] H r ↔ if u1 < u0 then Runs xs sl d 90 110 [l0, l1] [] H r else Runs xs sl d 90 52 [l0, l1] [] H r := q_icmp_gt (mo_90 49 rfl) rfl rfl
theorem r90_52 : Runs xs sl d 90 52 [some (.ref a0), l1] [] H r ↔ Runs xs sl d 90 53 [some (.ref a0), l1] [.ref a0] H r := q_aload_n (mo_90 52 rfl) rfl rfl
theorem r90_53 : Runs xs sl d 90 53 [l0, l1] [s0] H r ↔ Runs xs sl d 90 54 [l0, l1] [.int 3, s0] H r := q_iconst (mo_90 53 rfl) rfl rfl
theorem r90_54 : Runs xs sl d 90 54 [l0, l1] [.int u1, .ref b0] H r ↔ ∃ H1, hOw H b0 5 10 (.int u1) = some H1 ∧ Runs xs sl d 90 57 [l0, l1] [] H1 r := q_putf (mo_90 54 rfl) mow_90 rfl rfl (by decide +kernel) rfl
theorem r90_57 : Runs xs sl d 90 57 [some (.ref a0), l1] [] H r ↔ Runs xs sl d 90 58 [some (.ref a0), l1] [.ref a0] H r := q_aload_n (mo_90 57 rfl) rfl rfl
theorem r90_58 : Runs xs sl d 90 58 [l0, l1] [.ref b0] H r ↔ ∃ v, hO H b0 5 6 = some v ∧ Runs xs sl d 90 61 [l0, l1] [v] H r := q_getf (mo_90 58 rfl) mow_90 rfl rfl
theorem r90_61 : Runs xs sl d 90 61 [some (.ref a0), l1] [s0] H r ↔ Runs xs sl d 90 62 [some (.ref a0), l1] [.ref a0, s0] H r := q_aload_n (mo_90 61 rfl) rfl rfl
theorem r90_62 : Runs xs sl d 90 62 [l0, l1] [.ref b1, s0] H r ↔ ∃ v, hO H b1 5 9 = some v ∧ Runs xs sl d 90 65 [l0, l1] [v, s0] H r := q_getf (mo_90 62 rfl) mow_90 rfl rfl
theorem r90_65 : Runs xs sl d 90 65 [l0, l1] [s1, s0] H r ↔ Runs xs sl d 90 66 [l0, l1] [.int 1, s1, s0] H r := q_iconst (mo_90 65 rfl) rfl rfl
theorem r90_66 : Runs xs sl d 90 66 [l0, l1] [.int u2, .int u1, s0] H r ↔ Runs xs sl d 90 67 [l0, l1] [.int (u1 - u2), s0] H r := q_isub (mo_90 66 rfl) rfl
theorem r90_67 : Runs xs sl d 90 67 [l0, l1] [.int u1, .ref b0] H r ↔ ∃ v, hB H b0 u1 = some v ∧ Runs xs sl d 90 68 [l0, l1] [.int v] H r := run_bald (mo_90 67 rfl) rfl
theorem r90_68 : Runs xs sl d 90 68 [l0, l1] [s0] H r ↔ Runs xs sl d 90 70 [l0, l1] [.int 48, s0] H r := q_bipush (mo_90 68 rfl) rfl rfl
theorem r90_70 : Runs xs sl d 90 70 [l0, l1] [.int u1, .int u0] H r ↔ Runs xs sl d 90 71 [l0, l1] [.int (u0 - u1)] H r := q_isub (mo_90 70 rfl) rfl
theorem r90_71 : Runs xs sl d 90 71 [some (.ref a0), l1] [.int u0] H r ↔ Runs xs sl d 90 72 [some (.ref a0), some (.int u0)] [] H r := q_istore_n (mo_90 71 rfl) (Nat.le_of_ble_eq_true rfl) rfl rfl
theorem r90_71_1 : Runs xs sl d 90 71 [some .null, l1] [.int u0] H r ↔ Runs xs sl d 90 72 [some .null, some (.int u0)] [] H r := q_istore_n (mo_90 71 rfl) (Nat.le_of_ble_eq_true rfl) rfl rfl
theorem r90_72 : Runs xs sl d 90 72 [some (.ref a0), l1] [] H r ↔ Runs xs sl d 90 73 [some (.ref a0), l1] [.ref a0] H r := q_aload_n (mo_90 72 rfl) rfl rfl
theorem r90_73 : Runs xs sl d 90 73 [some (.ref a0), l1] [s0] H r ↔ Runs xs sl d 90 74 [some (.ref a0), l1] [.ref a0, s0] H r := q_aload_n (mo_90 73 rfl) rfl rfl
theorem r90_74 : Runs xs sl d 90 74 [l0, l1] [.ref b1, s0] H r ↔ ∃ v, hO H b1 5 9 = some v ∧ Runs xs sl d 90 77 [l0, l1] [v, s0] H r := q_getf (mo_90 74 rfl) mow_90 rfl rfl
theorem r90_77 : Runs xs sl d 90 77 [some (.ref a0), l1] [s1, s0] H r ↔ Runs xs sl d 90 78 [some (.ref a0), l1] [.ref a0, s1, s0] H r := q_aload_n (mo_90 77 rfl) rfl rfl
theorem r90_78 : Runs xs sl d 90 78 [l0, l1] [.ref b2, s1, s0] H r ↔ ∃ v, hO H b2 5 11 = some v ∧ Runs xs sl d 90 81 [l0, l1] [v, s1, s0] H r := q_getf (mo_90 78 rfl) mow_90 rfl rfl
theorem r90_81 : Runs xs sl d 90 81 [l0, l1] [.int u2, .int u1, s0] H r ↔ Runs xs sl d 90 82 [l0, l1] [.int (u1 - u2), s0] H r := q_isub (mo_90 81 rfl) rfl
theorem r90_82 : Runs xs sl d 90 82 [l0, l1] [s1, s0] H r ↔ Runs xs sl d 90 83 [l0, l1] [.int 2, s1, s0] H r := q_iconst (mo_90 82 rfl) rfl rfl
theorem r90_83 : Runs xs sl d 90 83 [l0, l1] [.int u2, .int u1, s0] H r ↔ if ¬ u1 = u2 then Runs xs sl d 90 106 [l0, l1] [s0] H r else Runs xs sl d 90 86 [l0, l1] [s0] H r := q_icmp_ne (mo_90 83 rfl) rfl rfl
theorem r90_86 : Runs xs sl d 90 86 [some (.ref a0), l1] [s0] H r ↔ Runs xs sl d 90 87 [some (.ref a0), l1] [.ref a0, s0] H r := q_aload_n (mo_90 86 rfl) rfl rfl
theorem r90_87 : Runs xs sl d 90 87 [l0, l1] [.ref b1, s0] H r ↔ ∃ v, hO H b1 5 6 = some v ∧ Runs xs sl d 90 90 [l0, l1] [v, s0] H r := q_getf (mo_90 87 rfl) mow_90 rfl rfl
theorem r90_90 : Runs xs sl d 90 90 [some (.ref a0), l1] [s1, s0] H r ↔ Runs xs sl d 90 91 [some (.ref a0), l1] [.ref a0, s1, s0] H r := q_aload_n (mo_90 90 rfl) rfl rfl
theorem r90_91 : Runs xs sl d 90 91 [l0, l1] [.ref b2, s1, s0] H r ↔ ∃ v, hO H b2 5 11 = some v ∧ Runs xs sl d 90 94 [l0, l1] [v, s1, s0] H r := q_getf (mo_90 91 rfl) mow_90 rfl rfl
theorem r90_94 : Runs xs sl d 90 94 [l0, l1] [.int u2, .ref b1, s0] H r ↔ ∃ v, hB H b1 u2 = some v ∧ Runs xs sl d 90 95 [l0, l1] [.int v, s0] H r := run_bald (mo_90 94 rfl) rfl
theorem r90_95 : Runs xs sl d 90 95 [l0, l1] [s1, s0] H r ↔ Runs xs sl d 90 97 [l0, l1] [.int 48, s1, s0] H r := q_bipush (mo_90 95 rfl) rfl rfl
theorem r90_97 : Runs xs sl d 90 97 [l0, l1] [.int u2, .int u1, s0] H r ↔ Runs xs sl d 90 98 [l0, l1] [.int (u1 - u2), s0] H r := q_isub (mo_90 97 rfl) rfl
theorem r90_98 : Runs xs sl d 90 98 [l0, l1] [s1, s0] H r ↔ Runs xs sl d 90 100 [l0, l1] [.int 10, s1, s0] H r := q_bipush (mo_90 98 rfl) rfl rfl
theorem r90_100 : Runs xs sl d 90 100 [l0, l1] [.int u2, .int u1, s0] H r ↔ Runs xs sl d 90 101 [l0, l1] [.int (u1 * u2), s0] H r := q_imul (mo_90 100 rfl) rfl
theorem r90_101 : Runs xs sl d 90 101 [l0, some (.int i1)] [s1, s0] H r ↔ Runs xs sl d 90 102 [l0, some (.int i1)] [.int i1, s1, s0] H r := q_iload_n (mo_90 101 rfl) rfl rfl
theorem r90_102 : Runs xs sl d 90 102 [l0, l1] [.int u2, .int u1, s0] H r ↔ Runs xs sl d 90 103 [l0, l1] [.int (u1 + u2), s0] H r := q_iadd (mo_90 102 rfl) rfl
theorem r90_103 : Runs xs sl d 90 103 [l0, l1] [s1, s0] H r ↔ Runs xs sl d 90 107 [l0, l1] [s1, s0] H r := q_goto (mo_90 103 rfl) rfl
theorem r90_106 : Runs xs sl d 90 106 [l0, some (.int i1)] [s0] H r ↔ Runs xs sl d 90 107 [l0, some (.int i1)] [.int i1, s0] H r := q_iload_n (mo_90 106 rfl) rfl rfl
theorem r90_107 : Runs xs sl d 90 107 [l0, l1] [.int u1, .ref b0] H r ↔ ∃ H1, hOw H b0 5 12 (.int u1) = some H1 ∧ Runs xs sl d 90 110 [l0, l1] [] H1 r := q_putf (mo_90 107 rfl) mow_90 rfl rfl (by decide +kernel) rfl
theorem r90_110 : Runs xs sl d 90 110 [l0, l1] [] H r ↔ r = (none, H) := q_ret (mo_90 110 rfl) mrt_90
theorem r91_0 : Runs xs sl d 91 0 [some (.int i0)] [] H r ↔ Runs xs sl d 91 1 [some (.int i0)] [.int i0] H r := q_iload_n (mo_91 0 rfl) rfl rfl
theorem r91_1 : Runs xs sl d 91 1 [l0] [s0] H r ↔ Runs xs sl d 91 3 [l0] [.int 97, s0] H r := q_bipush (mo_91 1 rfl) rfl rfl
theorem r91_3 : Runs xs sl d 91 3 [l0] [.int u1, .int u0] H r ↔ if u0 < u1 then Runs xs sl d 91 16 [l0] [] H r else Runs xs sl d 91 6 [l0] [] H r := q_icmp_lt (mo_91 3 rfl) rfl rfl
theorem r91_6 : Runs xs sl d 91 6 [some (.int i0)] [] H r ↔ Runs xs sl d 91 7 [some (.int i0)] [.int i0] H r := q_iload_n (mo_91 6 rfl) rfl rfl
theorem r91_7 : Runs xs sl d 91 7 [l0] [s0] H r ↔ Runs xs sl d 91 9 [l0] [.int 122, s0] H r := q_bipush (mo_91 7 rfl) rfl rfl
theorem r91_9 : Runs xs sl d 91 9 [l0] [.int u1, .int u0] H r ↔ if u1 < u0 then Runs xs sl d 91 16 [l0] [] H r else Runs xs sl d 91 12 [l0] [] H r := q_icmp_gt (mo_91 9 rfl) rfl rfl
theorem r91_12 : Runs xs sl d 91 12 [l0] [] H r ↔ Runs xs sl d 91 13 [l0] [.int 1] H r := q_iconst (mo_91 12 rfl) rfl rfl
theorem r91_13 : Runs xs sl d 91 13 [l0] [s0] H r ↔ Runs xs sl d 91 17 [l0] [s0] H r := q_goto (mo_91 13 rfl) rfl
theorem r91_16 : Runs xs sl d 91 16 [l0] [] H r ↔ Runs xs sl d 91 17 [l0] [.int 0] H r := q_iconst (mo_91 16 rfl) rfl rfl
theorem r91_17 (h : u0 = 0 ∨ u0 = 1) : Runs xs sl d 91 17 [l0] [.int u0] H r ↔ r = (some (.int u0), H) := q_zret (mo_91 17 rfl) mrt_91 h
theorem r92_0 : Runs xs sl d 92 0 [some (.ref a0), l1, l2, l3] [] H r ↔ Runs xs sl d 92 1 [some (.ref a0), l1, l2, l3] [.ref a0] H r := q_aload_n (mo_92 0 rfl) rfl rfl
theorem r92_1 : Runs xs sl d 92 1 [l0, l1, l2, l3] [.ref b0] H r ↔ ∃ v, hO H b0 5 9 = some v ∧ Runs xs sl d 92 4 [l0, l1, l2, l3] [v] H r := q_getf (mo_92 1 rfl) mow_92 rfl rfl
theorem r92_4 : Runs xs sl d 92 4 [some (.ref a0), l1, l2, l3] [s0] H r ↔ Runs xs sl d 92 5 [some (.ref a0), l1, l2, l3] [.ref a0, s0] H r := q_aload_n (mo_92 4 rfl) rfl rfl
theorem r92_5 : Runs xs sl d 92 5 [l0, l1, l2, l3] [.ref b1, s0] H r ↔ ∃ v, hO H b1 5 7 = some v ∧ Runs xs sl d 92 8 [l0, l1, l2, l3] [v, s0] H r := q_getf (mo_92 5 rfl) mow_92 rfl rfl
theorem r92_8 : Runs xs sl d 92 8 [l0, l1, l2, l3] [.int u1, .int u0] H r ↔ if u1 ≤ u0 then Runs xs sl d 92 39 [l0, l1, l2, l3] [] H r else Runs xs sl d 92 11 [l0, l1, l2, l3] [] H r := q_icmp_ge (mo_92 8 rfl) rfl rfl
theorem r92_11 : Runs xs sl d 92 11 [some (.ref a0), l1, l2, l3] [] H r ↔ Runs xs sl d 92 12 [some (.ref a0), l1, l2, l3] [.ref a0] H r := q_aload_n (mo_92 11 rfl) rfl rfl
theorem r92_12 : Runs xs sl d 92 12 [l0, l1, l2, l3] [.ref b0] H r ↔ ∃ v, hO H b0 5 6 = some v ∧ Runs xs sl d 92 15 [l0, l1, l2, l3] [v] H r := q_getf (mo_92 12 rfl) mow_92 rfl rfl
theorem r92_15 : Runs xs sl d 92 15 [some (.ref a0), l1, l2, l3] [s0] H r ↔ Runs xs sl d 92 16 [some (.ref a0), l1, l2, l3] [.ref a0, s0] H r := q_aload_n (mo_92 15 rfl) rfl rfl
theorem r92_16 : Runs xs sl d 92 16 [l0, l1, l2, l3] [.ref b1, s0] H r ↔ ∃ v, hO H b1 5 9 = some v ∧ Runs xs sl d 92 19 [l0, l1, l2, l3] [v, s0] H r := q_getf (mo_92 16 rfl) mow_92 rfl rfl
theorem r92_19 : Runs xs sl d 92 19 [l0, l1, l2, l3] [.int u1, .ref b0] H r ↔ ∃ v, hB H b0 u1 = some v ∧ Runs xs sl d 92 20 [l0, l1, l2, l3] [.int v] H r := run_bald (mo_92 19 rfl) rfl
theorem r92_20 : Runs xs sl (d + 1) 92 20 [l0, l1, l2, l3] [.int u0] H r ↔ ∃ v H1, Runs xs sl d 91 0 [some (.int u0)] [] H (v, H1) ∧ Runs xs sl (d + 1) 92 23 [l0, l1, l2, l3] (v.toList ++ []) H1 r := q_callS (M' := 91) (as := [.int u0]) (rest := []) (mo_92 20 rfl) mow_92 rfl mmx_91 rfl (Nat.le_of_ble_eq_true rfl) (Nat.le_of_ble_eq_true rfl) rfl rfl
theorem r92_23 : Runs xs sl d 92 23 [l0, l1, l2, l3] [.int u0] H r ↔ if u0 = 0 then Runs xs sl d 92 39 [l0, l1, l2, l3] [] H r else Runs xs sl d 92 26 [l0, l1, l2, l3] [] H r := q_if_eq (mo_92 23 rfl) rfl rfl
theorem r92_26 : Runs xs sl d 92 26 [some (.ref a0), l1, l2, l3] [] H r ↔ Runs xs sl d 92 27 [some (.ref a0), l1, l2, l3] [.ref a0] H r := q_aload_n (mo_92 26 rfl) rfl rfl
theorem r92_27 : Runs xs sl d 92 27 [l0, l1, l2, l3] [.ref b0] H r ↔ Runs xs sl d 92 28 [l0, l1, l2, l3] [.ref b0, .ref b0] H r := q_dup (mo_92 27 rfl) rfl rfl
theorem r92_28 : Runs xs sl d 92 28 [l0, l1, l2, l3] [.ref b1, s0] H r ↔ ∃ v, hO H b1 5 9 = some v ∧ Runs xs sl d 92 31 [l0, l1, l2, l3] [v, s0] H r := q_getf (mo_92 28 rfl) mow_92 rfl rfl
theorem r92_31 : Runs xs sl d 92 31 [l0, l1, l2, l3] [s1, s0] H r ↔ Runs xs sl d 92 32 [l0, l1, l2, l3] [.int 1, s1, s0] H r := q_iconst (mo_92 31 rfl) rfl rfl
theorem r92_32 : Runs xs sl d 92 32 [l0, l1, l2, l3] [.int u2, .int u1, s0] H r ↔ Runs xs sl d 92 33 [l0, l1, l2, l3] [.int (u1 + u2), s0] H r := q_iadd (mo_92 32 rfl) rfl
theorem r92_33 : Runs xs sl d 92 33 [l0, l1, l2, l3] [.int u1, .ref b0] H r ↔ ∃ H1, hOw H b0 5 9 (.int u1) = some H1 ∧ Runs xs sl d 92 36 [l0, l1, l2, l3] [] H1 r := q_putf (mo_92 33 rfl) mow_92 rfl rfl (by decide +kernel) rfl
theorem r92_36 : Runs xs sl d 92 36 [l0, l1, l2, l3] [] H r ↔ Runs xs sl d 92 0 [l0, l1, l2, l3] [] H r := q_goto (mo_92 36 rfl) rfl
theorem r92_39 : Runs xs sl d 92 39 [some (.ref a0), l1, l2, l3] [] H r ↔ Runs xs sl d 92 40 [some (.ref a0), l1, l2, l3] [.ref a0] H r := q_aload_n (mo_92 39 rfl) rfl rfl
theorem r92_40 : Runs xs sl d 92 40 [l0, l1, l2, l3] [s0] H r ↔ Runs xs sl d 92 41 [l0, l1, l2, l3] [.int 2, s0] H r := q_iconst (mo_92 40 rfl) rfl rfl
theorem r92_41 : Runs xs sl d 92 41 [l0, l1, l2, l3] [.int u1, .ref b0] H r ↔ ∃ H1, hOw H b0 5 10 (.int u1) = some H1 ∧ Runs xs sl d 92 44 [l0, l1, l2, l3] [] H1 r := q_putf (mo_92 41 rfl) mow_92 rfl rfl (by decide +kernel) rfl
theorem r92_44 : Runs xs sl d 92 44 [l0, l1, l2, l3] [] H r ↔ Runs xs sl d 92 45 [l0, l1, l2, l3] [.int 0] H r := q_iconst (mo_92 44 rfl) rfl rfl
theorem r92_45 : Runs xs sl d 92 45 [some (.ref a0), l1, l2, l3] [.int u0] H r ↔ Runs xs sl d 92 46 [some (.ref a0), some (.int u0), l2, l3] [] H r := q_istore_n (mo_92 45 rfl) (Nat.le_of_ble_eq_true rfl) rfl rfl
theorem r92_45_1 : Runs xs sl d 92 45 [some .null, l1, l2, l3] [.int u0] H r ↔ Runs xs sl d 92 46 [some .null, some (.int u0), l2, l3] [] H r := q_istore_n (mo_92 45 rfl) (Nat.le_of_ble_eq_true rfl) rfl rfl
theorem r92_46 : Runs xs sl d 92 46 [l0, l1, l2, l3] [] H r ↔ Runs xs sl d 92 47 [l0, l1, l2, l3] [.int 0] H r := q_iconst (mo_92 46 rfl) rfl rfl
theorem r92_47 : Runs xs sl d 92 47 [l0, some (.int i1), l2, l3] [.int u0] H r ↔ Runs xs sl d 92 48 [l0, some (.int i1), some (.int u0), l3] [] H r := q_istore_n (mo_92 47 rfl) (Nat.le_of_ble_eq_true rfl) rfl rfl
theorem r92_48 : Runs xs sl d 92 48 [l0, l1, l2, l3] [] H r ↔ Runs xs sl d 92 49 [l0, l1, l2, l3] [.int 0] H r := q_iconst (mo_92 48 rfl) rfl rfl
theorem r92_49 : Runs xs sl d 92 49 [l0, l1, some (.int i2), l3] [.int u0] H r ↔ Runs xs sl d 92 50 [l0, l1, some (.int i2), some (.int u0)] [] H r := q_istore_n (mo_92 49 rfl) (Nat.le_of_ble_eq_true rfl) rfl rfl
theorem r92_50 : Runs xs sl d 92 50 [l0, l1, l2, some (.int i3)] [] H r ↔ Runs xs sl d 92 51 [l0, l1, l2, some (.int i3)] [.int i3] H r := q_iload_n (mo_92 50 rfl) rfl rfl
theorem r92_51 : Runs xs sl d 92 51 [l0, l1, l2, l3] [s0] H r ↔ Runs xs sl d 92 53 [l0, l1, l2, l3] [.retAddr 0, s0] H r := q_ldcS (mo_92 51 rfl) mow_92 rfl rfl rfl
theorem r92_53 (h : b1 < 13) : Runs xs sl (d + 4) 92 53 [l0, l1, l2, l3] [.retAddr b1, .int u0] H r ↔ Runs xs sl (d + 4) 92 56 [l0, l1, l2, l3] [.int (nI (slen b1)), .int u0] H r := q_strlen (mo_92 53 rfl) mow_92 rfl rfl (Nat.le_of_ble_eq_true rfl) rfl h
theorem r92_56 : Runs xs sl d 92 56 [l0, l1, l2, l3] [.int u1, .int u0] H r ↔ if u1 ≤ u0 then Runs xs sl d 92 119 [l0, l1, l2, l3] [] H r else Runs xs sl d 92 59 [l0, l1, l2, l3] [] H r := q_icmp_ge (mo_92 56 rfl) rfl rfl
theorem r92_59 : Runs xs sl d 92 59 [some (.ref a0), l1, l2, l3] [] H r ↔ Runs xs sl d 92 60 [some (.ref a0), l1, l2, l3] [.ref a0] H r := q_aload_n (mo_92 59 rfl) rfl rfl
theorem r92_60 : Runs xs sl d 92 60 [l0, l1, l2, l3] [.ref b0] H r ↔ ∃ v, hO H b0 5 12 = some v ∧ Runs xs sl d 92 63 [l0, l1, l2, l3] [v] H r := q_getf (mo_92 60 rfl) mow_92 rfl rfl
theorem r92_63 : Runs xs sl d 92 63 [l0, l1, l2, l3] [s0] H r ↔ Runs xs sl d 92 64 [l0, l1, l2, l3] [.int (-1), s0] H r := q_iconst (mo_92 63 rfl) rfl rfl
theorem r92_64 : Runs xs sl d 92 64 [l0, l1, l2, l3] [.int u1, .int u0] H r ↔ if ¬ u0 = u1 then Runs xs sl d 92 119 [l0, l1, l2, l3] [] H r else Runs xs sl d 92 67 [l0, l1, l2, l3] [] H r := q_icmp_ne (mo_92 64 rfl) rfl rfl
theorem r92_67 : Runs xs sl d 92 67 [l0, l1, l2, l3] [] H r ↔ Runs xs sl d 92 69 [l0, l1, l2, l3] [.retAddr 0] H r := q_ldcS (mo_92 67 rfl) mow_92 rfl rfl rfl
theorem r92_69 : Runs xs sl d 92 69 [l0, l1, l2, some (.int i3)] [s0] H r ↔ Runs xs sl d 92 70 [l0, l1, l2, some (.int i3)] [.int i3, s0] H r := q_iload_n (mo_92 69 rfl) rfl rfl
theorem r92_70 (h : b0 < 13) (h2 : b1 < slen b0) : Runs xs sl (d + 4) 92 70 [l0, l1, l2, l3] [.int (nI b1), .retAddr b0] H r ↔ Runs xs sl (d + 4) 92 73 [l0, l1, l2, l3] [.int (sch b0 b1)] H r := q_strat (mo_92 70 rfl) mow_92 rfl rfl (Nat.le_of_ble_eq_true rfl) rfl h h2
theorem r92_73 : Runs xs sl d 92 73 [l0, l1, l2, l3] [s0] H r ↔ Runs xs sl d 92 75 [l0, l1, l2, l3] [.int 32, s0] H r := q_bipush (mo_92 73 rfl) rfl rfl
theorem r92_75 : Runs xs sl d 92 75 [l0, l1, l2, l3] [.int u1, .int u0] H r ↔ if ¬ u0 = u1 then Runs xs sl d 92 113 [l0, l1, l2, l3] [] H r else Runs xs sl d 92 78 [l0, l1, l2, l3] [] H r := q_icmp_ne (mo_92 75 rfl) rfl rfl
theorem r92_78 : Runs xs sl d 92 78 [l0, l1, l2, some (.int i3)] [] H r ↔ Runs xs sl d 92 79 [l0, l1, l2, some (.int i3)] [.int i3] H r := q_iload_n (mo_92 78 rfl) rfl rfl
theorem r92_79 : Runs xs sl d 92 79 [l0, l1, some (.int i2), l3] [s0] H r ↔ Runs xs sl d 92 80 [l0, l1, some (.int i2), l3] [.int i2, s0] H r := q_iload_n (mo_92 79 rfl) rfl rfl
theorem r92_80 : Runs xs sl d 92 80 [l0, l1, l2, l3] [.int u1, .int u0] H r ↔ Runs xs sl d 92 81 [l0, l1, l2, l3] [.int (u0 - u1)] H r := q_isub (mo_92 80 rfl) rfl
theorem r92_81 : Runs xs sl d 92 81 [some (.ref a0), l1, l2, l3] [s0] H r ↔ Runs xs sl d 92 82 [some (.ref a0), l1, l2, l3] [.ref a0, s0] H r := q_aload_n (mo_92 81 rfl) rfl rfl
theorem r92_82 : Runs xs sl d 92 82 [l0, l1, l2, l3] [.ref b1, s0] H r ↔ ∃ v, hO H b1 5 9 = some v ∧ Runs xs sl d 92 85 [l0, l1, l2, l3] [v, s0] H r := q_getf (mo_92 82 rfl) mow_92 rfl rfl
theorem r92_85 : Runs xs sl d 92 85 [some (.ref a0), l1, l2, l3] [s1, s0] H r ↔ Runs xs sl d 92 86 [some (.ref a0), l1, l2, l3] [.ref a0, s1, s0] H r := q_aload_n (mo_92 85 rfl) rfl rfl
theorem r92_86 : Runs xs sl d 92 86 [l0, l1, l2, l3] [.ref b2, s1, s0] H r ↔ ∃ v, hO H b2 5 11 = some v ∧ Runs xs sl d 92 89 [l0, l1, l2, l3] [v, s1, s0] H r := q_getf (mo_92 86 rfl) mow_92 rfl rfl
theorem r92_89 : Runs xs sl d 92 89 [l0, l1, l2, l3] [.int u2, .int u1, s0] H r ↔ Runs xs sl d 92 90 [l0, l1, l2, l3] [.int (u1 - u2), s0] H r := q_isub (mo_92 89 rfl) rfl
theorem r92_90 : Runs xs sl d 92 90 [l0, l1, l2, l3] [.int u1, .int u0] H r ↔ if ¬ u0 = u1 then Runs xs sl d 92 106 [l0, l1, l2, l3] [] H r else Runs xs sl d 92 93 [l0, l1, l2, l3] [] H r := q_icmp_ne (mo_92 90 rfl) rfl rfl
theorem r92_93 : Runs xs sl d 92 93 [some (.ref a0), l1, l2, l3] [] H r ↔ Runs xs sl d 92 94 [some (.ref a0), l1, l2, l3] [.ref a0] H r := q_aload_n (mo_92 93 rfl) rfl rfl
theorem r92_94 : Runs xs sl d 92 94 [l0, l1, some (.int i2), l3] [s0] H r ↔ Runs xs sl d 92 95 [l0, l1, some (.int i2), l3] [.int i2, s0] H r := q_iload_n (mo_92 94 rfl) rfl rfl
theorem r92_95 (hc : hC H b0 = some 5) : Runs xs sl (d + 1) 92 95 [l0, l1, l2, l3] [.int u1, .ref b0] H r ↔ ∃ v H1, Runs xs sl d 93 0 [some (.ref b0), some (.int u1), none] [] H (v, H1) ∧ Runs xs sl (d + 1) 92 98 [l0, l1, l2, l3] (v.toList ++ []) H1 r := q_callV (M' := 93) (as := [.int u1]) (rest := []) (mo_92 95 rfl) mow_92 rfl mcs_93 mmx_93 rfl (Nat.le_of_ble_eq_true rfl) (Nat.le_of_ble_eq_true rfl) rfl rfl hc
theorem r92_98 : Runs xs sl d 92 98 [l0, l1, l2, l3] [.int u0] H r ↔ if u0 = 0 then Runs xs sl d 92 106 [l0, l1, l2, l3] [] H r else Runs xs sl d 92 101 [l0, l1, l2, l3] [] H r := q_if_eq (mo_92 98 rfl) rfl rfl
theorem r92_101 : Runs xs sl d 92 101 [some (.ref a0), l1, l2, l3] [] H r ↔ Runs xs sl d 92 102 [some (.ref a0), l1, l2, l3] [.ref a0] H r := q_aload_n (mo_92 101 rfl) rfl rfl
theorem r92_102 : Runs xs sl d 92 102 [l0, some (.int i1), l2, l3] [s0] H r ↔ Runs xs sl d 92 103 [l0, some (.int i1), l2, l3] [.int i1, s0] H r := q_iload_n (mo_92 102 rfl) rfl rfl
theorem r92_103 : Runs xs sl d 92 103 [l0, l1, l2, l3] [.int u1, .ref b0] H r ↔ ∃ H1, hOw H b0 5 12 (.int u1) = some H1 ∧ Runs xs sl d 92 106 [l0, l1, l2, l3] [] H1 r := q_putf (mo_92 103 rfl) mow_92 rfl rfl (by decide +kernel) rfl
theorem r92_106 : Runs xs sl d 92 106 [some (.ref a0), some (.int i1), l2, l3] [] H r ↔ Runs xs sl d 92 109 [some (.ref a0), some (.int (i1 + 1)), l2, l3] [] H r := q_iinc (mo_92 106 rfl) rfl (Nat.le_of_ble_eq_true rfl) rfl rfl
theorem r92_106_1 : Runs xs sl d 92 106 [some .null, some (.int i1), l2, l3] [] H r ↔ Runs xs sl d 92 109 [some .null, some (.int (i1 + 1)), l2, l3] [] H r := q_iinc (mo_92 106 rfl) rfl (Nat.le_of_ble_eq_true rfl) rfl rfl
theorem r92_109 : Runs xs sl d 92 109 [l0, l1, l2, some (.int i3)] [] H r ↔ Runs xs sl d 92 110 [l0, l1, l2, some (.int i3)] [.int i3] H r := q_iload_n (mo_92 109 rfl) rfl rfl
theorem r92_110 : Runs xs sl d 92 110 [l0, l1, l2, l3] [s0] H r ↔ Runs xs sl d 92 111 [l0, l1, l2, l3] [.int 1, s0] H r := q_iconst (mo_92 110 rfl) rfl rfl
theorem r92_111 : Runs xs sl d 92 111 [l0, l1, l2, l3] [.int u1, .int u0] H r ↔ Runs xs sl d 92 112 [l0, l1, l2, l3] [.int (u0 + u1)] H r := q_iadd (mo_92 111 rfl) rfl
theorem r92_112 : Runs xs sl d 92 112 [l0, some (.int i1), l2, l3] [.int u0] H r ↔ Runs xs sl d 92 113 [l0, some (.int i1), some (.int u0), l3] [] H r := q_istore_n (mo_92 112 rfl) (Nat.le_of_ble_eq_true rfl) rfl rfl
theorem r92_113 : Runs xs sl d 92 113 [l0, l1, some (.int i2), some (.int i3)] [] H r ↔ Runs xs sl d 92 116 [l0, l1, some (.int i2), some (.int (i3 + 1))] [] H r := q_iinc (mo_92 113 rfl) rfl (Nat.le_of_ble_eq_true rfl) rfl rfl
theorem r92_116 : Runs xs sl d 92 116 [l0, l1, l2, l3] [] H r ↔ Runs xs sl d 92 50 [l0, l1, l2, l3] [] H r := q_goto (mo_92 116 rfl) rfl
theorem r92_119 : Runs xs sl d 92 119 [l0, l1, l2, l3] [] H r ↔ r = (none, H) := q_ret (mo_92 119 rfl) mrt_92
theorem r93_0 : Runs xs sl d 93 0 [some (.ref a0), l1, l2] [] H r ↔ Runs xs sl d 93 1 [some (.ref a0), l1, l2] [.ref a0] H r := q_aload_n (mo_93 0 rfl) rfl rfl
theorem r93_1 : Runs xs sl d 93 1 [l0, l1, l2] [.ref b0] H r ↔ ∃ v, hO H b0 5 11 = some v ∧ Runs xs sl d 93 4 [l0, l1, l2] [v] H r := q_getf (mo_93 1 rfl) mow_93 rfl rfl
theorem r93_4 : Runs xs sl d 93 4 [l0, some (.int i1), l2] [.int u0] H r ↔ Runs xs sl d 93 5 [l0, some (.int i1), some (.int u0)] [] H r := q_istore_n (mo_93 4 rfl) (Nat.le_of_ble_eq_true rfl) rfl rfl
theorem r93_5 : Runs xs sl d 93 5 [l0, l1, some (.int i2)] [] H r ↔ Runs xs sl d 93 6 [l0, l1, some (.int i2)] [.int i2] H r := q_iload_n (mo_93 5 rfl) rfl rfl
theorem r93_6 : Runs xs sl d 93 6 [some (.ref a0), l1, l2] [s0] H r ↔ Runs xs sl d 93 7 [some (.ref a0), l1, l2] [.ref a0, s0] H r := q_aload_n (mo_93 6 rfl) rfl rfl
theorem r93_7 : Runs xs sl d 93 7 [l0, l1, l2] [.ref b1, s0] H r ↔ ∃ v, hO H b1 5 9 = some v ∧ Runs xs sl d 93 10 [l0, l1, l2] [v, s0] H r := q_getf (mo_93 7 rfl) mow_93 rfl rfl
theorem r93_10 : Runs xs sl d 93 10 [l0, l1, l2] [.int u1, .int u0] H r ↔ if u1 ≤ u0 then Runs xs sl d 93 43 [l0, l1, l2] [] H r else Runs xs sl d 93 13 [l0, l1, l2] [] H r := q_icmp_ge (mo_93 10 rfl) rfl rfl
theorem r93_13 : Runs xs sl d 93 13 [some (.ref a0), l1, l2] [] H r ↔ Runs xs sl d 93 14 [some (.ref a0), l1, l2] [.ref a0] H r := q_aload_n (mo_93 13 rfl) rfl rfl
theorem r93_14 : Runs xs sl d 93 14 [l0, l1, l2] [.ref b0] H r ↔ ∃ v, hO H b0 5 6 = some v ∧ Runs xs sl d 93 17 [l0, l1, l2] [v] H r := q_getf (mo_93 14 rfl) mow_93 rfl rfl
theorem r93_17 : Runs xs sl d 93 17 [l0, l1, some (.int i2)] [s0] H r ↔ Runs xs sl d 93 18 [l0, l1, some (.int i2)] [.int i2, s0] H r := q_iload_n (mo_93 17 rfl) rfl rfl
theorem r93_18 : Runs xs sl d 93 18 [l0, l1, l2] [.int u1, .ref b0] H r ↔ ∃ v, hB H b0 u1 = some v ∧ Runs xs sl d 93 19 [l0, l1, l2] [.int v] H r := run_bald (mo_93 18 rfl) rfl
theorem r93_19 : Runs xs sl d 93 19 [l0, l1, l2] [s0] H r ↔ Runs xs sl d 93 21 [l0, l1, l2] [.retAddr 0, s0] H r := q_ldcS (mo_93 19 rfl) mow_93 rfl rfl rfl
theorem r93_21 : Runs xs sl d 93 21 [l0, some (.int i1), l2] [s1, s0] H r ↔ Runs xs sl d 93 22 [l0, some (.int i1), l2] [.int i1, s1, s0] H r := q_iload_n (mo_93 21 rfl) rfl rfl
theorem r93_22 : Runs xs sl d 93 22 [l0, l1, some (.int i2)] [s2, s1, s0] H r ↔ Runs xs sl d 93 23 [l0, l1, some (.int i2)] [.int i2, s2, s1, s0] H r := q_iload_n (mo_93 22 rfl) rfl rfl
theorem r93_23 : Runs xs sl d 93 23 [l0, l1, l2] [.int u3, .int u2, s1, s0] H r ↔ Runs xs sl d 93 24 [l0, l1, l2] [.int (u2 + u3), s1, s0] H r := q_iadd (mo_93 23 rfl) rfl
theorem r93_24 : Runs xs sl d 93 24 [some (.ref a0), l1, l2] [s2, s1, s0] H r ↔ Runs xs sl d 93 25 [some (.ref a0), l1, l2] [.ref a0, s2, s1, s0] H r := q_aload_n (mo_93 24 rfl) rfl rfl
theorem r93_25 : Runs xs sl d 93 25 [l0, l1, l2] [.ref b3, s2, s1, s0] H r ↔ ∃ v, hO H b3 5 11 = some v ∧ Runs xs sl d 93 28 [l0, l1, l2] [v, s2, s1, s0] H r := q_getf (mo_93 25 rfl) mow_93 rfl rfl
theorem r93_28 : Runs xs sl d 93 28 [l0, l1, l2] [.int u3, .int u2, s1, s0] H r ↔ Runs xs sl d 93 29 [l0, l1, l2] [.int (u2 - u3), s1, s0] H r := q_isub (mo_93 28 rfl) rfl
theorem r93_29 (h : b1 < 13) (h2 : b2 < slen b1) : Runs xs sl (d + 4) 93 29 [l0, l1, l2] [.int (nI b2), .retAddr b1, .int u0] H r ↔ Runs xs sl (d + 4) 93 32 [l0, l1, l2] [.int (sch b1 b2), .int u0] H r := q_strat (mo_93 29 rfl) mow_93 rfl rfl (Nat.le_of_ble_eq_true rfl) rfl h h2
theorem r93_32 : Runs xs sl d 93 32 [l0, l1, l2] [.int u1, .int u0] H r ↔ if u0 = u1 then Runs xs sl d 93 37 [l0, l1, l2] [] H r else Runs xs sl d 93 35 [l0, l1, l2] [] H r := q_icmp_eq (mo_93 32 rfl) rfl rfl
theorem r93_35 : Runs xs sl d 93 35 [l0, l1, l2] [] H r ↔ Runs xs sl d 93 36 [l0, l1, l2] [.int 0] H r := q_iconst (mo_93 35 rfl) rfl rfl
theorem r93_36 (h : u0 = 0 ∨ u0 = 1) : Runs xs sl d 93 36 [l0, l1, l2] [.int u0] H r ↔ r = (some (.int u0), H) := q_zret (mo_93 36 rfl) mrt_93 h
theorem r93_37 : Runs xs sl d 93 37 [l0, some (.int i1), some (.int i2)] [] H r ↔ Runs xs sl d 93 40 [l0, some (.int i1), some (.int (i2 + 1))] [] H r := q_iinc (mo_93 37 rfl) rfl (Nat.le_of_ble_eq_true rfl) rfl rfl
theorem r93_40 : Runs xs sl d 93 40 [l0, l1, l2] [] H r ↔ Runs xs sl d 93 5 [l0, l1, l2] [] H r := q_goto (mo_93 40 rfl) rfl
theorem r93_43 : Runs xs sl d 93 43 [l0, l1, l2] [] H r ↔ Runs xs sl d 93 44 [l0, l1, l2] [.int 1] H r := q_iconst (mo_93 43 rfl) rfl rfl
theorem r93_44 (h : u0 = 0 ∨ u0 = 1) : Runs xs sl d 93 44 [l0, l1, l2] [.int u0] H r ↔ r = (some (.int u0), H) := q_zret (mo_93 44 rfl) mrt_93 h
theorem r94_0 : Runs xs sl d 94 0 [some (.ref a0), l1, l2, l3] [] H r ↔ Runs xs sl d 94 1 [some (.ref a0), l1, l2, l3] [.ref a0] H r := q_aload_n (mo_94 0 rfl) rfl rfl
theorem r94_1 : Runs xs sl d 94 1 [l0, l1, l2, l3] [.ref b0] H r ↔ ∃ v, hO H b0 5 10 = some v ∧ Runs xs sl d 94 4 [l0, l1, l2, l3] [v] H r := q_getf (mo_94 1 rfl) mow_94 rfl rfl
theorem r94_4 : Runs xs sl d 94 4 [l0, l1, l2, l3] [s0] H r ↔ Runs xs sl d 94 5 [l0, l1, l2, l3] [.int 2, s0] H r := q_iconst (mo_94 4 rfl) rfl rfl
theorem r94_5 : Runs xs sl d 94 5 [l0, l1, l2, l3] [.int u1, .int u0] H r ↔ if ¬ u0 = u1 then Runs xs sl d 94 19 [l0, l1, l2, l3] [] H r else Runs xs sl d 94 8 [l0, l1, l2, l3] [] H r := q_icmp_ne (mo_94 5 rfl) rfl rfl
theorem r94_8 : Runs xs sl d 94 8 [some (.ref a0), l1, l2, l3] [] H r ↔ Runs xs sl d 94 9 [some (.ref a0), l1, l2, l3] [.ref a0] H r := q_aload_n (mo_94 8 rfl) rfl rfl
theorem r94_9 : Runs xs sl d 94 9 [some (.ref a0), l1, l2, l3] [s0] H r ↔ Runs xs sl d 94 10 [some (.ref a0), l1, l2, l3] [.ref a0, s0] H r := q_aload_n (mo_94 9 rfl) rfl rfl
theorem r94_10 : Runs xs sl d 94 10 [l0, l1, l2, l3] [.ref b1, s0] H r ↔ ∃ v, hO H b1 5 12 = some v ∧ Runs xs sl d 94 13 [l0, l1, l2, l3] [v, s0] H r := q_getf (mo_94 10 rfl) mow_94 rfl rfl
theorem r94_13 (hc : hC H b0 = some 5) : Runs xs sl (d + 1) 94 13 [l0, l1, l2, l3] [.int u1, .ref b0] H r ↔ ∃ v H1, Runs xs sl d 95 0 [some (.ref b0), some (.int u1)] [] H (v, H1) ∧ Runs xs sl (d + 1) 94 16 [l0, l1, l2, l3] (v.toList ++ []) H1 r := q_callV (M' := 95) (as := [.int u1]) (rest := []) (mo_94 13 rfl) mow_94 rfl mcs_95 mmx_95 rfl (Nat.le_of_ble_eq_true rfl) (Nat.le_of_ble_eq_true rfl) rfl rfl hc
theorem r94_16 : Runs xs sl d 94 16 [l0, l1, l2, l3] [.int u0] H r ↔ if ¬ u0 = 0 then Runs xs sl d 94 21 [l0, l1, l2, l3] [] H r else Runs xs sl d 94 19 [l0, l1, l2, l3] [] H r := q_if_ne (mo_94 16 rfl) rfl rfl
theorem r94_19 : Runs xs sl d 94 19 [l0, l1, l2, l3] [] H r ↔ Runs xs sl d 94 20 [l0, l1, l2, l3] [.int 0] H r := q_iconst (mo_94 19 rfl) rfl rfl
theorem r94_20 (h : u0 = 0 ∨ u0 = 1) : Runs xs sl d 94 20 [l0, l1, l2, l3] [.int u0] H r ↔ r = (some (.int u0), H) := q_zret (mo_94 20 rfl) mrt_94 h
theorem r94_21 : Runs xs sl d 94 21 [some (.ref a0), l1, l2, l3] [] H r ↔ Runs xs sl d 94 22 [some (.ref a0), l1, l2, l3] [.ref a0] H r := q_aload_n (mo_94 21 rfl) rfl rfl
theorem r94_22 : Runs xs sl d 94 22 [l0, l1, l2, l3] [.ref b0] H r ↔ ∃ v, hO H b0 5 12 = some v ∧ Runs xs sl d 94 25 [l0, l1, l2, l3] [v] H r := q_getf (mo_94 22 rfl) mow_94 rfl rfl
theorem r94_25 : Runs xs sl d 94 25 [some (.ref a0), l1, l2, l3] [.int u0] H r ↔ Runs xs sl d 94 26 [some (.ref a0), some (.int u0), l2, l3] [] H r := q_istore_n (mo_94 25 rfl) (Nat.le_of_ble_eq_true rfl) rfl rfl
theorem r94_25_1 : Runs xs sl d 94 25 [some .null, l1, l2, l3] [.int u0] H r ↔ Runs xs sl d 94 26 [some .null, some (.int u0), l2, l3] [] H r := q_istore_n (mo_94 25 rfl) (Nat.le_of_ble_eq_true rfl) rfl rfl
theorem r94_26 : Runs xs sl d 94 26 [some (.ref a0), l1, l2, l3] [] H r ↔ Runs xs sl d 94 27 [some (.ref a0), l1, l2, l3] [.ref a0] H r := q_aload_n (mo_94 26 rfl) rfl rfl
theorem r94_27 : Runs xs sl d 94 27 [l0, some (.int i1), l2, l3] [s0] H r ↔ Runs xs sl d 94 28 [l0, some (.int i1), l2, l3] [.int i1, s0] H r := q_iload_n (mo_94 27 rfl) rfl rfl
theorem r94_28 (hc : hC H b0 = some 5) : Runs xs sl (d + 1) 94 28 [l0, l1, l2, l3] [.int u1, .ref b0] H r ↔ ∃ v H1, Runs xs sl d 96 0 [some (.ref b0), some (.int u1)] [] H (v, H1) ∧ Runs xs sl (d + 1) 94 31 [l0, l1, l2, l3] (v.toList ++ []) H1 r := q_callV (M' := 96) (as := [.int u1]) (rest := []) (mo_94 28 rfl) mow_94 rfl mcs_96 mmx_96 rfl (Nat.le_of_ble_eq_true rfl) (Nat.le_of_ble_eq_true rfl) rfl rfl hc
theorem r94_31 : Runs xs sl d 94 31 [l0, l1, l2, l3] [.int u0] H r ↔ if u0 = 0 then Runs xs sl d 94 43 [l0, l1, l2, l3] [] H r else Runs xs sl d 94 34 [l0, l1, l2, l3] [] H r := q_if_eq (mo_94 31 rfl) rfl rfl
theorem r94_34 : Runs xs sl d 94 34 [some (.ref a0), l1, l2, l3] [] H r ↔ Runs xs sl d 94 35 [some (.ref a0), l1, l2, l3] [.ref a0] H r := q_aload_n (mo_94 34 rfl) rfl rfl
theorem r94_35 : Runs xs sl d 94 35 [l0, l1, l2, l3] [s0] H r ↔ Runs xs sl d 94 36 [l0, l1, l2, l3] [.int 3, s0] H r := q_iconst (mo_94 35 rfl) rfl rfl
theorem r94_36 : Runs xs sl d 94 36 [some (.ref a0), l1, l2, l3] [s1, s0] H r ↔ Runs xs sl d 94 37 [some (.ref a0), l1, l2, l3] [.ref a0, s1, s0] H r := q_aload_n (mo_94 36 rfl) rfl rfl
theorem r94_37 : Runs xs sl d 94 37 [l0, l1, l2, l3] [.ref b2, s1, s0] H r ↔ ∃ v, hO H b2 5 11 = some v ∧ Runs xs sl d 94 40 [l0, l1, l2, l3] [v, s1, s0] H r := q_getf (mo_94 37 rfl) mow_94 rfl rfl
theorem r94_40 (hc : hC H b0 = some 5) : Runs xs sl (d + 1) 94 40 [l0, l1, l2, l3] [.int u2, .int u1, .ref b0] H r ↔ ∃ v H1, Runs xs sl d 97 0 [some (.ref b0), some (.int u1), some (.int u2)] [] H (v, H1) ∧ Runs xs sl (d + 1) 94 43 [l0, l1, l2, l3] (v.toList ++ []) H1 r := q_callV (M' := 97) (as := [.int u1, .int u2]) (rest := []) (mo_94 40 rfl) mow_94 rfl mcs_97 mmx_97 rfl (Nat.le_of_ble_eq_true rfl) (Nat.le_of_ble_eq_true rfl) rfl rfl hc
theorem r94_43 : Runs xs sl d 94 43 [l0, some (.int i1), l2, l3] [] H r ↔ Runs xs sl d 94 44 [l0, some (.int i1), l2, l3] [.int i1] H r := q_iload_n (mo_94 43 rfl) rfl rfl
theorem r94_44 : Runs xs sl (d + 1) 94 44 [l0, l1, l2, l3] [.int u0] H r ↔ ∃ v H1, Runs xs sl d 98 0 [some (.int u0)] [] H (v, H1) ∧ Runs xs sl (d + 1) 94 47 [l0, l1, l2, l3] (v.toList ++ []) H1 r := q_callS (M' := 98) (as := [.int u0]) (rest := []) (mo_94 44 rfl) mow_94 rfl mmx_98 rfl (Nat.le_of_ble_eq_true rfl) (Nat.le_of_ble_eq_true rfl) rfl rfl
theorem r94_47 : Runs xs sl d 94 47 [l0, some (.int i1), l2, l3] [.retAddr b0] H r ↔ Runs xs sl d 94 48 [l0, some (.int i1), some (.retAddr b0), l3] [] H r := q_astore_nR (mo_94 47 rfl) (Nat.le_of_ble_eq_true rfl) rfl rfl
theorem r94_48 : Runs xs sl d 94 48 [l0, l1, l2, l3] [] H r ↔ Runs xs sl d 94 49 [l0, l1, l2, l3] [.int 0] H r := q_iconst (mo_94 48 rfl) rfl rfl
theorem r94_49 : Runs xs sl d 94 49 [l0, l1, some (.retAddr a2), l3] [.int u0] H r ↔ Runs xs sl d 94 50 [l0, l1, some (.retAddr a2), some (.int u0)] [] H r := q_istore_n (mo_94 49 rfl) (Nat.le_of_ble_eq_true rfl) rfl rfl
theorem r94_50 : Runs xs sl d 94 50 [l0, l1, l2, some (.int i3)] [] H r ↔ Runs xs sl d 94 51 [l0, l1, l2, some (.int i3)] [.int i3] H r := q_iload_n (mo_94 50 rfl) rfl rfl
theorem r94_51 : Runs xs sl d 94 51 [l0, l1, some (.retAddr a2), l3] [s0] H r ↔ Runs xs sl d 94 52 [l0, l1, some (.retAddr a2), l3] [.retAddr a2, s0] H r := q_aload_nR (mo_94 51 rfl) rfl rfl
theorem r94_52 (h : b1 < 13) : Runs xs sl (d + 4) 94 52 [l0, l1, l2, l3] [.retAddr b1, .int u0] H r ↔ Runs xs sl (d + 4) 94 55 [l0, l1, l2, l3] [.int (nI (slen b1)), .int u0] H r := q_strlen (mo_94 52 rfl) mow_94 rfl rfl (Nat.le_of_ble_eq_true rfl) rfl h
theorem r94_55 : Runs xs sl d 94 55 [l0, l1, l2, l3] [.int u1, .int u0] H r ↔ if u1 ≤ u0 then Runs xs sl d 94 83 [l0, l1, l2, l3] [] H r else Runs xs sl d 94 58 [l0, l1, l2, l3] [] H r := q_icmp_ge (mo_94 55 rfl) rfl rfl
theorem r94_58 : Runs xs sl d 94 58 [some (.ref a0), l1, l2, l3] [] H r ↔ Runs xs sl d 94 59 [some (.ref a0), l1, l2, l3] [.ref a0] H r := q_aload_n (mo_94 58 rfl) rfl rfl
theorem r94_59 (hc : hC H b0 = some 5) : Runs xs sl (d + 1) 94 59 [l0, l1, l2, l3] [.ref b0] H r ↔ ∃ v H1, Runs xs sl d 88 0 [some (.ref b0)] [] H (v, H1) ∧ Runs xs sl (d + 1) 94 62 [l0, l1, l2, l3] (v.toList ++ []) H1 r := q_callV (M' := 88) (as := []) (rest := []) (mo_94 59 rfl) mow_94 rfl mcs_88 mmx_88 rfl (Nat.le_of_ble_eq_true rfl) (Nat.le_of_ble_eq_true rfl) rfl rfl hc
theorem r94_62 : Runs xs sl d 94 62 [some (.ref a0), l1, l2, l3] [] H r ↔ Runs xs sl d 94 63 [some (.ref a0), l1, l2, l3] [.ref a0] H r := q_aload_n (mo_94 62 rfl) rfl rfl
theorem r94_63 : Runs xs sl d 94 63 [l0, l1, some (.retAddr a2), l3] [s0] H r ↔ Runs xs sl d 94 64 [l0, l1, some (.retAddr a2), l3] [.retAddr a2, s0] H r := q_aload_nR (mo_94 63 rfl) rfl rfl
theorem r94_64 : Runs xs sl d 94 64 [l0, l1, l2, some (.int i3)] [s1, s0] H r ↔ Runs xs sl d 94 65 [l0, l1, l2, some (.int i3)] [.int i3, s1, s0] H r := q_iload_n (mo_94 64 rfl) rfl rfl
theorem r94_65 (h : b1 < 13) (h2 : b2 < slen b1) : Runs xs sl (d + 4) 94 65 [l0, l1, l2, l3] [.int (nI b2), .retAddr b1, .ref b0] H r ↔ Runs xs sl (d + 4) 94 68 [l0, l1, l2, l3] [.int (sch b1 b2), .ref b0] H r := q_strat (mo_94 65 rfl) mow_94 rfl rfl (Nat.le_of_ble_eq_true rfl) rfl h h2
theorem r94_68 : Runs xs sl d 94 68 [l0, l1, l2, some (.int i3)] [s1, s0] H r ↔ Runs xs sl d 94 69 [l0, l1, l2, some (.int i3)] [.int i3, s1, s0] H r := q_iload_n (mo_94 68 rfl) rfl rfl
theorem r94_69 (hc : hC H b0 = some 5) : Runs xs sl (d + 1) 94 69 [l0, l1, l2, l3] [.int u2, .int u1, .ref b0] H r ↔ ∃ v H1, Runs xs sl d 99 0 [some (.ref b0), some (.int u1), some (.int u2), none] [] H (v, H1) ∧ Runs xs sl (d + 1) 94 72 [l0, l1, l2, l3] (v.toList ++ []) H1 r := q_callV (M' := 99) (as := [.int u1, .int u2]) (rest := []) (mo_94 69 rfl) mow_94 rfl mcs_99 mmx_99 rfl (Nat.le_of_ble_eq_true rfl) (Nat.le_of_ble_eq_true rfl) rfl rfl hc
theorem r94_72 : Runs xs sl d 94 72 [l0, l1, l2, l3] [.int u0] H r ↔ if ¬ u0 = 0 then Runs xs sl d 94 77 [l0, l1, l2, l3] [] H r else Runs xs sl d 94 75 [l0, l1, l2, l3] [] H r := q_if_ne (mo_94 72 rfl) rfl rfl
theorem r94_75 : Runs xs sl d 94 75 [l0, l1, l2, l3] [] H r ↔ Runs xs sl d 94 76 [l0, l1, l2, l3] [.int 0] H r := q_iconst (mo_94 75 rfl) rfl rfl
theorem r94_76 (h : u0 = 0 ∨ u0 = 1) : Runs xs sl d 94 76 [l0, l1, l2, l3] [.int u0] H r ↔ r = (some (.int u0), H) := q_zret (mo_94 76 rfl) mrt_94 h
theorem r94_77 : Runs xs sl d 94 77 [l0, l1, some (.retAddr a2), some (.int i3)] [] H r ↔ Runs xs sl d 94 80 [l0, l1, some (.retAddr a2), some (.int (i3 + 1))] [] H r := q_iinc (mo_94 77 rfl) rfl (Nat.le_of_ble_eq_true rfl) rfl rfl
theorem r94_80 : Runs xs sl d 94 80 [l0, l1, l2, l3] [] H r ↔ Runs xs sl d 94 50 [l0, l1, l2, l3] [] H r := q_goto (mo_94 80 rfl) rfl
theorem r94_83 : Runs xs sl d 94 83 [some (.ref a0), l1, l2, l3] [] H r ↔ Runs xs sl d 94 84 [some (.ref a0), l1, l2, l3] [.ref a0] H r := q_aload_n (mo_94 83 rfl) rfl rfl
theorem r94_84 (hc : hC H b0 = some 5) : Runs xs sl (d + 1) 94 84 [l0, l1, l2, l3] [.ref b0] H r ↔ ∃ v H1, Runs xs sl d 88 0 [some (.ref b0)] [] H (v, H1) ∧ Runs xs sl (d + 1) 94 87 [l0, l1, l2, l3] (v.toList ++ []) H1 r := q_callV (M' := 88) (as := []) (rest := []) (mo_94 84 rfl) mow_94 rfl mcs_88 mmx_88 rfl (Nat.le_of_ble_eq_true rfl) (Nat.le_of_ble_eq_true rfl) rfl rfl hc
theorem r94_87 : Runs xs sl d 94 87 [some (.ref a0), l1, l2, l3] [] H r ↔ Runs xs sl d 94 88 [some (.ref a0), l1, l2, l3] [.ref a0] H r := q_aload_n (mo_94 87 rfl) rfl rfl
theorem r94_88 : Runs xs sl d 94 88 [l0, l1, l2, l3] [.ref b0] H r ↔ ∃ v, hO H b0 5 10 = some v ∧ Runs xs sl d 94 91 [l0, l1, l2, l3] [v] H r := q_getf (mo_94 88 rfl) mow_94 rfl rfl
theorem r94_91 : Runs xs sl d 94 91 [l0, l1, l2, l3] [s0] H r ↔ Runs xs sl d 94 92 [l0, l1, l2, l3] [.int 1, s0] H r := q_iconst (mo_94 91 rfl) rfl rfl
theorem r94_92 : Runs xs sl d 94 92 [l0, l1, l2, l3] [.int u1, .int u0] H r ↔ if u0 = u1 then Runs xs sl d 94 97 [l0, l1, l2, l3] [] H r else Runs xs sl d 94 95 [l0, l1, l2, l3] [] H r := q_icmp_eq (mo_94 92 rfl) rfl rfl
theorem r94_95 : Runs xs sl d 94 95 [l0, l1, l2, l3] [] H r ↔ Runs xs sl d 94 96 [l0, l1, l2, l3] [.int 0] H r := q_iconst (mo_94 95 rfl) rfl rfl
theorem r94_96 (h : u0 = 0 ∨ u0 = 1) : Runs xs sl d 94 96 [l0, l1, l2, l3] [.int u0] H r ↔ r = (some (.int u0), H) := q_zret (mo_94 96 rfl) mrt_94 h
theorem r94_97 : Runs xs sl d 94 97 [some (.ref a0), l1, l2, l3] [] H r ↔ Runs xs sl d 94 98 [some (.ref a0), l1, l2, l3] [.ref a0] H r := q_aload_n (mo_94 97 rfl) rfl rfl
theorem r94_98 : Runs xs sl d 94 98 [l0, l1, l2, l3] [.ref b0] H r ↔ ∃ v, hO H b0 5 3 = some v ∧ Runs xs sl d 94 101 [l0, l1, l2, l3] [v] H r := q_getf (mo_94 98 rfl) mow_94 rfl rfl
theorem r94_101 : Runs xs sl d 94 101 [l0, l1, l2, l3] [.int u0] H r ↔ if ¬ u0 = 0 then Runs xs sl d 94 109 [l0, l1, l2, l3] [] H r else Runs xs sl d 94 104 [l0, l1, l2, l3] [] H r := q_if_ne (mo_94 101 rfl) rfl rfl
theorem r94_104 : Runs xs sl d 94 104 [some (.ref a0), l1, l2, l3] [] H r ↔ Runs xs sl d 94 105 [some (.ref a0), l1, l2, l3] [.ref a0] H r := q_aload_n (mo_94 104 rfl) rfl rfl
theorem r94_105 : Runs xs sl d 94 105 [l0, some (.int i1), l2, l3] [s0] H r ↔ Runs xs sl d 94 106 [l0, some (.int i1), l2, l3] [.int i1, s0] H r := q_iload_n (mo_94 105 rfl) rfl rfl
theorem r94_106 (hc : hC H b0 = some 5) : Runs xs sl (d + 1) 94 106 [l0, l1, l2, l3] [.int u1, .ref b0] H r ↔ ∃ v H1, Runs xs sl d 102 0 [some (.ref b0), some (.int u1)] [] H (v, H1) ∧ Runs xs sl (d + 1) 94 109 [l0, l1, l2, l3] (v.toList ++ []) H1 r := q_callV (M' := 102) (as := [.int u1]) (rest := []) (mo_94 106 rfl) mow_94 rfl mcs_102 mmx_102 rfl (Nat.le_of_ble_eq_true rfl) (Nat.le_of_ble_eq_true rfl) rfl rfl hc
theorem r94_109 : Runs xs sl d 94 109 [l0, l1, l2, l3] [] H r ↔ Runs xs sl d 94 110 [l0, l1, l2, l3] [.int 1] H r := q_iconst (mo_94 109 rfl) rfl rfl
theorem r94_110 (h : u0 = 0 ∨ u0 = 1) : Runs xs sl d 94 110 [l0, l1, l2, l3] [.int u0] H r ↔ r = (some (.int u0), H) := q_zret (mo_94 110 rfl) mrt_94 h
theorem r95_0 : Runs xs sl d 95 0 [some (.ref a0), l1] [] H r ↔ Runs xs sl d 95 1 [some (.ref a0), l1] [.ref a0] H r := q_aload_n (mo_95 0 rfl) rfl rfl
theorem r95_1 : Runs xs sl d 95 1 [l0, l1] [.ref b0] H r ↔ ∃ v, hO H b0 5 8 = some v ∧ Runs xs sl d 95 4 [l0, l1] [v] H r := q_getf (mo_95 1 rfl) mow_95 rfl rfl
theorem r95_4_c0 : Runs xs sl d 95 4 [l0, l1] [.int 0] H r ↔ Runs xs sl d 95 32 [l0, l1] [] H r := q_lsw (mo_95 4 rfl) rfl rfl
theorem r95_4_c1 : Runs xs sl d 95 4 [l0, l1] [.int 1] H r ↔ Runs xs sl d 95 50 [l0, l1] [] H r := q_lsw (mo_95 4 rfl) rfl rfl
theorem r95_4_d (h : Op.lookupswitch.offset [(0, 28), (1, 46)] 63 u0.toInt = 63) : Runs xs sl d 95 4 [l0, l1] [.int u0] H r ↔ Runs xs sl d 95 67 [l0, l1] [] H r := q_lsw (mo_95 4 rfl) rfl (by rw [show (#[(0, 28), (1, 46)] : Array (Int × Int)).toList = [(0, 28), (1, 46)] from rfl, h]; rfl)
theorem r95_32 : Runs xs sl d 95 32 [l0, some (.int i1)] [] H r ↔ Runs xs sl d 95 33 [l0, some (.int i1)] [.int i1] H r := q_iload_n (mo_95 32 rfl) rfl rfl
theorem r95_33 : Runs xs sl d 95 33 [l0, l1] [s0] H r ↔ Runs xs sl d 95 35 [l0, l1] [.int 11, s0] H r := q_bipush (mo_95 33 rfl) rfl rfl
theorem r95_35 : Runs xs sl d 95 35 [l0, l1] [.int u1, .int u0] H r ↔ if u0 < u1 then Runs xs sl d 95 48 [l0, l1] [] H r else Runs xs sl d 95 38 [l0, l1] [] H r := q_icmp_lt (mo_95 35 rfl) rfl rfl
theorem r95_38 : Runs xs sl d 95 38 [l0, some (.int i1)] [] H r ↔ Runs xs sl d 95 39 [l0, some (.int i1)] [.int i1] H r := q_iload_n (mo_95 38 rfl) rfl rfl
theorem r95_39 : Runs xs sl d 95 39 [l0, l1] [s0] H r ↔ Runs xs sl d 95 41 [l0, l1] [.int 17, s0] H r := q_bipush (mo_95 39 rfl) rfl rfl
theorem r95_41 : Runs xs sl d 95 41 [l0, l1] [.int u1, .int u0] H r ↔ if u1 < u0 then Runs xs sl d 95 48 [l0, l1] [] H r else Runs xs sl d 95 44 [l0, l1] [] H r := q_icmp_gt (mo_95 41 rfl) rfl rfl
theorem r95_44 : Runs xs sl d 95 44 [l0, l1] [] H r ↔ Runs xs sl d 95 45 [l0, l1] [.int 1] H r := q_iconst (mo_95 44 rfl) rfl rfl
theorem r95_45 : Runs xs sl d 95 45 [l0, l1] [s0] H r ↔ Runs xs sl d 95 49 [l0, l1] [s0] H r := q_goto (mo_95 45 rfl) rfl
theorem r95_48 : Runs xs sl d 95 48 [l0, l1] [] H r ↔ Runs xs sl d 95 49 [l0, l1] [.int 0] H r := q_iconst (mo_95 48 rfl) rfl rfl
theorem r95_49 (h : u0 = 0 ∨ u0 = 1) : Runs xs sl d 95 49 [l0, l1] [.int u0] H r ↔ r = (some (.int u0), H) := q_zret (mo_95 49 rfl) mrt_95 h
theorem r95_50 : Runs xs sl d 95 50 [l0, some (.int i1)] [] H r ↔ Runs xs sl d 95 51 [l0, some (.int i1)] [.int i1] H r := q_iload_n (mo_95 50 rfl) rfl rfl
theorem r95_51 : Runs xs sl d 95 51 [l0, l1] [s0] H r ↔ Runs xs sl d 95 52 [l0, l1] [.int 5, s0] H r := q_iconst (mo_95 51 rfl) rfl rfl
theorem r95_52 : Runs xs sl d 95 52 [l0, l1] [.int u1, .int u0] H r ↔ if u0 < u1 then Runs xs sl d 95 65 [l0, l1] [] H r else Runs xs sl d 95 55 [l0, l1] [] H r := q_icmp_lt (mo_95 52 rfl) rfl rfl
theorem r95_55 : Runs xs sl d 95 55 [l0, some (.int i1)] [] H r ↔ Runs xs sl d 95 56 [l0, some (.int i1)] [.int i1] H r := q_iload_n (mo_95 55 rfl) rfl rfl
theorem r95_56 : Runs xs sl d 95 56 [l0, l1] [s0] H r ↔ Runs xs sl d 95 58 [l0, l1] [.int 10, s0] H r := q_bipush (mo_95 56 rfl) rfl rfl
theorem r95_58 : Runs xs sl d 95 58 [l0, l1] [.int u1, .int u0] H r ↔ if u1 < u0 then Runs xs sl d 95 65 [l0, l1] [] H r else Runs xs sl d 95 61 [l0, l1] [] H r := q_icmp_gt (mo_95 58 rfl) rfl rfl
theorem r95_61 : Runs xs sl d 95 61 [l0, l1] [] H r ↔ Runs xs sl d 95 62 [l0, l1] [.int 1] H r := q_iconst (mo_95 61 rfl) rfl rfl
theorem r95_62 : Runs xs sl d 95 62 [l0, l1] [s0] H r ↔ Runs xs sl d 95 66 [l0, l1] [s0] H r := q_goto (mo_95 62 rfl) rfl
theorem r95_65 : Runs xs sl d 95 65 [l0, l1] [] H r ↔ Runs xs sl d 95 66 [l0, l1] [.int 0] H r := q_iconst (mo_95 65 rfl) rfl rfl
theorem r95_66 (h : u0 = 0 ∨ u0 = 1) : Runs xs sl d 95 66 [l0, l1] [.int u0] H r ↔ r = (some (.int u0), H) := q_zret (mo_95 66 rfl) mrt_95 h
theorem r95_67 : Runs xs sl d 95 67 [l0, some (.int i1)] [] H r ↔ Runs xs sl d 95 68 [l0, some (.int i1)] [.int i1] H r := q_iload_n (mo_95 67 rfl) rfl rfl
theorem r95_68 : Runs xs sl d 95 68 [l0, l1] [s0] H r ↔ Runs xs sl d 95 70 [l0, l1] [.int 11, s0] H r := q_bipush (mo_95 68 rfl) rfl rfl
theorem r95_70 : Runs xs sl d 95 70 [l0, l1] [.int u1, .int u0] H r ↔ if u0 = u1 then Runs xs sl d 95 85 [l0, l1] [] H r else Runs xs sl d 95 73 [l0, l1] [] H r := q_icmp_eq (mo_95 70 rfl) rfl rfl
theorem r95_73 : Runs xs sl d 95 73 [l0, some (.int i1)] [] H r ↔ Runs xs sl d 95 74 [l0, some (.int i1)] [.int i1] H r := q_iload_n (mo_95 73 rfl) rfl rfl
theorem r95_74 : Runs xs sl d 95 74 [l0, l1] [s0] H r ↔ Runs xs sl d 95 76 [l0, l1] [.int 18, s0] H r := q_bipush (mo_95 74 rfl) rfl rfl
theorem r95_76 : Runs xs sl d 95 76 [l0, l1] [.int u1, .int u0] H r ↔ if u0 = u1 then Runs xs sl d 95 85 [l0, l1] [] H r else Runs xs sl d 95 79 [l0, l1] [] H r := q_icmp_eq (mo_95 76 rfl) rfl rfl
theorem r95_79 : Runs xs sl d 95 79 [l0, some (.int i1)] [] H r ↔ Runs xs sl d 95 80 [l0, some (.int i1)] [.int i1] H r := q_iload_n (mo_95 79 rfl) rfl rfl
theorem r95_80 : Runs xs sl d 95 80 [l0, l1] [s0] H r ↔ Runs xs sl d 95 82 [l0, l1] [.int 19, s0] H r := q_bipush (mo_95 80 rfl) rfl rfl
theorem r95_82 : Runs xs sl d 95 82 [l0, l1] [.int u1, .int u0] H r ↔ if ¬ u0 = u1 then Runs xs sl d 95 89 [l0, l1] [] H r else Runs xs sl d 95 85 [l0, l1] [] H r := q_icmp_ne (mo_95 82 rfl) rfl rfl
theorem r95_85 : Runs xs sl d 95 85 [l0, l1] [] H r ↔ Runs xs sl d 95 86 [l0, l1] [.int 1] H r := q_iconst (mo_95 85 rfl) rfl rfl
theorem r95_86 : Runs xs sl d 95 86 [l0, l1] [s0] H r ↔ Runs xs sl d 95 90 [l0, l1] [s0] H r := q_goto (mo_95 86 rfl) rfl
theorem r95_89 : Runs xs sl d 95 89 [l0, l1] [] H r ↔ Runs xs sl d 95 90 [l0, l1] [.int 0] H r := q_iconst (mo_95 89 rfl) rfl rfl
theorem r95_90 (h : u0 = 0 ∨ u0 = 1) : Runs xs sl d 95 90 [l0, l1] [.int u0] H r ↔ r = (some (.int u0), H) := q_zret (mo_95 90 rfl) mrt_95 h
theorem r96_0 : Runs xs sl d 96 0 [l0, some (.int i1)] [] H r ↔ Runs xs sl d 96 1 [l0, some (.int i1)] [.int i1] H r := q_iload_n (mo_96 0 rfl) rfl rfl
theorem r96_1_c13 : Runs xs sl d 96 1 [l0, l1] [.int 13] H r ↔ Runs xs sl d 96 44 [l0, l1] [] H r := q_tsw (off := 43) (mo_96 1 rfl) rfl rfl
theorem r96_1_c14 : Runs xs sl d 96 1 [l0, l1] [.int 14] H r ↔ Runs xs sl d 96 116 [l0, l1] [] H r := q_tsw (off := 115) (mo_96 1 rfl) rfl rfl
theorem r96_1_c15 : Runs xs sl d 96 1 [l0, l1] [.int 15] H r ↔ Runs xs sl d 96 116 [l0, l1] [] H r := q_tsw (off := 115) (mo_96 1 rfl) rfl rfl
theorem r96_1_c16 : Runs xs sl d 96 1 [l0, l1] [.int 16] H r ↔ Runs xs sl d 96 62 [l0, l1] [] H r := q_tsw (off := 61) (mo_96 1 rfl) rfl rfl
theorem r96_1_c17 : Runs xs sl d 96 1 [l0, l1] [.int 17] H r ↔ Runs xs sl d 96 80 [l0, l1] [] H r := q_tsw (off := 79) (mo_96 1 rfl) rfl rfl
theorem r96_1_c18 : Runs xs sl d 96 1 [l0, l1] [.int 18] H r ↔ Runs xs sl d 96 116 [l0, l1] [] H r := q_tsw (off := 115) (mo_96 1 rfl) rfl rfl
theorem r96_1_c19 : Runs xs sl d 96 1 [l0, l1] [.int 19] H r ↔ Runs xs sl d 96 98 [l0, l1] [] H r := q_tsw (off := 97) (mo_96 1 rfl) rfl rfl
theorem r96_1_d (h : u0.toInt < 13 ∨ 19 < u0.toInt) : Runs xs sl d 96 1 [l0, l1] [.int u0] H r ↔ Runs xs sl d 96 116 [l0, l1] [] H r := q_tswD (mo_96 1 rfl) rfl h
theorem r96_44 : Runs xs sl d 96 44 [some (.ref a0), l1] [] H r ↔ Runs xs sl d 96 45 [some (.ref a0), l1] [.ref a0] H r := q_aload_n (mo_96 44 rfl) rfl rfl
theorem r96_45 : Runs xs sl d 96 45 [l0, l1] [.ref b0] H r ↔ ∃ v, hO H b0 5 0 = some v ∧ Runs xs sl d 96 48 [l0, l1] [v] H r := q_getf (mo_96 45 rfl) mow_96 rfl rfl
theorem r96_48 : Runs xs sl d 96 48 [l0, l1] [.ref b0] H r ↔ ∃ v, hO H b0 8 2 = some v ∧ Runs xs sl d 96 51 [l0, l1] [v] H r := q_getf (mo_96 48 rfl) mow_96 rfl rfl
theorem r96_51 : Runs xs sl d 96 51 [l0, l1] [s0] H r ↔ Runs xs sl d 96 53 [l0, l1] [.int 8, s0] H r := q_bipush (mo_96 51 rfl) rfl rfl
theorem r96_53 : Runs xs sl d 96 53 [l0, l1] [.int u1, .int u0] H r ↔ if u0 < u1 then Runs xs sl d 96 60 [l0, l1] [] H r else Runs xs sl d 96 56 [l0, l1] [] H r := q_icmp_lt (mo_96 53 rfl) rfl rfl
theorem r96_56 : Runs xs sl d 96 56 [l0, l1] [] H r ↔ Runs xs sl d 96 57 [l0, l1] [.int 1] H r := q_iconst (mo_96 56 rfl) rfl rfl
theorem r96_57 : Runs xs sl d 96 57 [l0, l1] [s0] H r ↔ Runs xs sl d 96 61 [l0, l1] [s0] H r := q_goto (mo_96 57 rfl) rfl
theorem r96_60 : Runs xs sl d 96 60 [l0, l1] [] H r ↔ Runs xs sl d 96 61 [l0, l1] [.int 0] H r := q_iconst (mo_96 60 rfl) rfl rfl
theorem r96_61 (h : u0 = 0 ∨ u0 = 1) : Runs xs sl d 96 61 [l0, l1] [.int u0] H r ↔ r = (some (.int u0), H) := q_zret (mo_96 61 rfl) mrt_96 h
theorem r96_62 : Runs xs sl d 96 62 [some (.ref a0), l1] [] H r ↔ Runs xs sl d 96 63 [some (.ref a0), l1] [.ref a0] H r := q_aload_n (mo_96 62 rfl) rfl rfl
theorem r96_63 : Runs xs sl d 96 63 [l0, l1] [.ref b0] H r ↔ ∃ v, hO H b0 5 0 = some v ∧ Runs xs sl d 96 66 [l0, l1] [v] H r := q_getf (mo_96 63 rfl) mow_96 rfl rfl
theorem r96_66 : Runs xs sl d 96 66 [l0, l1] [.ref b0] H r ↔ ∃ v, hO H b0 8 3 = some v ∧ Runs xs sl d 96 69 [l0, l1] [v] H r := q_getf (mo_96 66 rfl) mow_96 rfl rfl
theorem r96_69 : Runs xs sl d 96 69 [l0, l1] [s0] H r ↔ Runs xs sl d 96 71 [l0, l1] [.int 12, s0] H r := q_bipush (mo_96 69 rfl) rfl rfl
theorem r96_71 : Runs xs sl d 96 71 [l0, l1] [.int u1, .int u0] H r ↔ if u0 < u1 then Runs xs sl d 96 78 [l0, l1] [] H r else Runs xs sl d 96 74 [l0, l1] [] H r := q_icmp_lt (mo_96 71 rfl) rfl rfl
theorem r96_74 : Runs xs sl d 96 74 [l0, l1] [] H r ↔ Runs xs sl d 96 75 [l0, l1] [.int 1] H r := q_iconst (mo_96 74 rfl) rfl rfl
theorem r96_75 : Runs xs sl d 96 75 [l0, l1] [s0] H r ↔ Runs xs sl d 96 79 [l0, l1] [s0] H r := q_goto (mo_96 75 rfl) rfl
theorem r96_78 : Runs xs sl d 96 78 [l0, l1] [] H r ↔ Runs xs sl d 96 79 [l0, l1] [.int 0] H r := q_iconst (mo_96 78 rfl) rfl rfl
theorem r96_79 (h : u0 = 0 ∨ u0 = 1) : Runs xs sl d 96 79 [l0, l1] [.int u0] H r ↔ r = (some (.int u0), H) := q_zret (mo_96 79 rfl) mrt_96 h
theorem r96_80 : Runs xs sl d 96 80 [some (.ref a0), l1] [] H r ↔ Runs xs sl d 96 81 [some (.ref a0), l1] [.ref a0] H r := q_aload_n (mo_96 80 rfl) rfl rfl
theorem r96_81 : Runs xs sl d 96 81 [l0, l1] [.ref b0] H r ↔ ∃ v, hO H b0 5 0 = some v ∧ Runs xs sl d 96 84 [l0, l1] [v] H r := q_getf (mo_96 81 rfl) mow_96 rfl rfl
theorem r96_84 : Runs xs sl d 96 84 [l0, l1] [.ref b0] H r ↔ ∃ v, hO H b0 8 4 = some v ∧ Runs xs sl d 96 87 [l0, l1] [v] H r := q_getf (mo_96 84 rfl) mow_96 rfl rfl
theorem r96_87 : Runs xs sl d 96 87 [l0, l1] [s0] H r ↔ Runs xs sl d 96 89 [l0, l1] [.int 8, s0] H r := q_bipush (mo_96 87 rfl) rfl rfl
theorem r96_89 : Runs xs sl d 96 89 [l0, l1] [.int u1, .int u0] H r ↔ if u0 < u1 then Runs xs sl d 96 96 [l0, l1] [] H r else Runs xs sl d 96 92 [l0, l1] [] H r := q_icmp_lt (mo_96 89 rfl) rfl rfl
theorem r96_92 : Runs xs sl d 96 92 [l0, l1] [] H r ↔ Runs xs sl d 96 93 [l0, l1] [.int 1] H r := q_iconst (mo_96 92 rfl) rfl rfl
theorem r96_93 : Runs xs sl d 96 93 [l0, l1] [s0] H r ↔ Runs xs sl d 96 97 [l0, l1] [s0] H r := q_goto (mo_96 93 rfl) rfl
theorem r96_96 : Runs xs sl d 96 96 [l0, l1] [] H r ↔ Runs xs sl d 96 97 [l0, l1] [.int 0] H r := q_iconst (mo_96 96 rfl) rfl rfl
theorem r96_97 (h : u0 = 0 ∨ u0 = 1) : Runs xs sl d 96 97 [l0, l1] [.int u0] H r ↔ r = (some (.int u0), H) := q_zret (mo_96 97 rfl) mrt_96 h
theorem r96_98 : Runs xs sl d 96 98 [some (.ref a0), l1] [] H r ↔ Runs xs sl d 96 99 [some (.ref a0), l1] [.ref a0] H r := q_aload_n (mo_96 98 rfl) rfl rfl
theorem r96_99 : Runs xs sl d 96 99 [l0, l1] [.ref b0] H r ↔ ∃ v, hO H b0 5 2 = some v ∧ Runs xs sl d 96 102 [l0, l1] [v] H r := q_getf (mo_96 99 rfl) mow_96 rfl rfl
theorem r96_102 : Runs xs sl d 96 102 [l0, l1] [.ref b0] H r ↔ ∃ v, hO H b0 4 2 = some v ∧ Runs xs sl d 96 105 [l0, l1] [v] H r := q_getf (mo_96 102 rfl) mow_96 rfl rfl
theorem r96_105 : Runs xs sl d 96 105 [l0, l1] [s0] H r ↔ Runs xs sl d 96 107 [l0, l1] [.int 12, s0] H r := q_bipush (mo_96 105 rfl) rfl rfl
theorem r96_107 : Runs xs sl d 96 107 [l0, l1] [.int u1, .int u0] H r ↔ if u0 < u1 then Runs xs sl d 96 114 [l0, l1] [] H r else Runs xs sl d 96 110 [l0, l1] [] H r := q_icmp_lt (mo_96 107 rfl) rfl rfl
theorem r96_110 : Runs xs sl d 96 110 [l0, l1] [] H r ↔ Runs xs sl d 96 111 [l0, l1] [.int 1] H r := q_iconst (mo_96 110 rfl) rfl rfl
theorem r96_111 : Runs xs sl d 96 111 [l0, l1] [s0] H r ↔ Runs xs sl d 96 115 [l0, l1] [s0] H r := q_goto (mo_96 111 rfl) rfl
theorem r96_114 : Runs xs sl d 96 114 [l0, l1] [] H r ↔ Runs xs sl d 96 115 [l0, l1] [.int 0] H r := q_iconst (mo_96 114 rfl) rfl rfl
theorem r96_115 (h : u0 = 0 ∨ u0 = 1) : Runs xs sl d 96 115 [l0, l1] [.int u0] H r ↔ r = (some (.int u0), H) := q_zret (mo_96 115 rfl) mrt_96 h
theorem r96_116 : Runs xs sl d 96 116 [some (.ref a0), l1] [] H r ↔ Runs xs sl d 96 117 [some (.ref a0), l1] [.ref a0] H r := q_aload_n (mo_96 116 rfl) rfl rfl
theorem r96_117 : Runs xs sl d 96 117 [l0, l1] [.ref b0] H r ↔ ∃ v, hO H b0 5 8 = some v ∧ Runs xs sl d 96 120 [l0, l1] [v] H r := q_getf (mo_96 117 rfl) mow_96 rfl rfl
theorem r96_120 : Runs xs sl d 96 120 [l0, l1] [s0] H r ↔ Runs xs sl d 96 121 [l0, l1] [.int 1, s0] H r := q_iconst (mo_96 120 rfl) rfl rfl
theorem r96_121 : Runs xs sl d 96 121 [l0, l1] [.int u1, .int u0] H r ↔ if ¬ u0 = u1 then Runs xs sl d 96 140 [l0, l1] [] H r else Runs xs sl d 96 124 [l0, l1] [] H r := q_icmp_ne (mo_96 121 rfl) rfl rfl
theorem r96_124 : Runs xs sl d 96 124 [some (.ref a0), l1] [] H r ↔ Runs xs sl d 96 125 [some (.ref a0), l1] [.ref a0] H r := q_aload_n (mo_96 124 rfl) rfl rfl
theorem r96_125 : Runs xs sl d 96 125 [l0, l1] [.ref b0] H r ↔ ∃ v, hO H b0 5 1 = some v ∧ Runs xs sl d 96 128 [l0, l1] [v] H r := q_getf (mo_96 125 rfl) mow_96 rfl rfl
theorem r96_128 : Runs xs sl d 96 128 [l0, l1] [.ref b0] H r ↔ ∃ v, hO H b0 0 0 = some v ∧ Runs xs sl d 96 131 [l0, l1] [v] H r := q_getf (mo_96 128 rfl) mow_96 rfl rfl
theorem r96_131 : Runs xs sl d 96 131 [l0, l1] [s0] H r ↔ Runs xs sl d 96 133 [l0, l1] [.int 40, s0] H r := q_bipush (mo_96 131 rfl) rfl rfl
theorem r96_133 : Runs xs sl d 96 133 [l0, l1] [.int u1, .int u0] H r ↔ if u0 < u1 then Runs xs sl d 96 140 [l0, l1] [] H r else Runs xs sl d 96 136 [l0, l1] [] H r := q_icmp_lt (mo_96 133 rfl) rfl rfl
theorem r96_136 : Runs xs sl d 96 136 [l0, l1] [] H r ↔ Runs xs sl d 96 137 [l0, l1] [.int 1] H r := q_iconst (mo_96 136 rfl) rfl rfl
theorem r96_137 : Runs xs sl d 96 137 [l0, l1] [s0] H r ↔ Runs xs sl d 96 141 [l0, l1] [s0] H r := q_goto (mo_96 137 rfl) rfl
theorem r96_140 : Runs xs sl d 96 140 [l0, l1] [] H r ↔ Runs xs sl d 96 141 [l0, l1] [.int 0] H r := q_iconst (mo_96 140 rfl) rfl rfl
theorem r96_141 (h : u0 = 0 ∨ u0 = 1) : Runs xs sl d 96 141 [l0, l1] [.int u0] H r ↔ r = (some (.int u0), H) := q_zret (mo_96 141 rfl) mrt_96 h
theorem r97_0 : Runs xs sl d 97 0 [some (.ref a0), l1, l2] [] H r ↔ Runs xs sl d 97 1 [some (.ref a0), l1, l2] [.ref a0] H r := q_aload_n (mo_97 0 rfl) rfl rfl
theorem r97_1 : Runs xs sl d 97 1 [l0, l1, l2] [.ref b0] H r ↔ ∃ v, hO H b0 5 3 = some v ∧ Runs xs sl d 97 4 [l0, l1, l2] [v] H r := q_getf (mo_97 1 rfl) mow_97 rfl rfl
theorem r97_4 : Runs xs sl d 97 4 [l0, l1, l2] [.int u0] H r ↔ if ¬ u0 = 0 then Runs xs sl d 97 17 [l0, l1, l2] [] H r else Runs xs sl d 97 7 [l0, l1, l2] [] H r := q_if_ne (mo_97 4 rfl) rfl rfl
theorem r97_7 : Runs xs sl d 97 7 [some (.ref a0), l1, l2] [] H r ↔ Runs xs sl d 97 8 [some (.ref a0), l1, l2] [.ref a0] H r := q_aload_n (mo_97 7 rfl) rfl rfl
theorem r97_8 : Runs xs sl d 97 8 [l0, some (.int i1), l2] [s0] H r ↔ Runs xs sl d 97 9 [l0, some (.int i1), l2] [.int i1, s0] H r := q_iload_n (mo_97 8 rfl) rfl rfl
theorem r97_9 : Runs xs sl d 97 9 [l0, l1, l2] [.int u1, .ref b0] H r ↔ ∃ H1, hOw H b0 5 3 (.int u1) = some H1 ∧ Runs xs sl d 97 12 [l0, l1, l2] [] H1 r := q_putf (mo_97 9 rfl) mow_97 rfl rfl (by decide +kernel) rfl
theorem r97_12 : Runs xs sl d 97 12 [some (.ref a0), l1, l2] [] H r ↔ Runs xs sl d 97 13 [some (.ref a0), l1, l2] [.ref a0] H r := q_aload_n (mo_97 12 rfl) rfl rfl
theorem r97_13 : Runs xs sl d 97 13 [l0, l1, some (.int i2)] [s0] H r ↔ Runs xs sl d 97 14 [l0, l1, some (.int i2)] [.int i2, s0] H r := q_iload_n (mo_97 13 rfl) rfl rfl
theorem r97_14 : Runs xs sl d 97 14 [l0, l1, l2] [.int u1, .ref b0] H r ↔ ∃ H1, hOw H b0 5 4 (.int u1) = some H1 ∧ Runs xs sl d 97 17 [l0, l1, l2] [] H1 r := q_putf (mo_97 14 rfl) mow_97 rfl rfl (by decide +kernel) rfl
theorem r97_17 : Runs xs sl d 97 17 [l0, l1, l2] [] H r ↔ r = (none, H) := q_ret (mo_97 17 rfl) mrt_97
theorem r98_0 : Runs xs sl d 98 0 [some (.int i0)] [] H r ↔ Runs xs sl d 98 1 [some (.int i0)] [.int i0] H r := q_iload_n (mo_98 0 rfl) rfl rfl
theorem r98_1_c5 : Runs xs sl d 98 1 [l0] [.int 5] H r ↔ Runs xs sl d 98 91 [l0] [] H r := q_tsw (off := 90) (mo_98 1 rfl) rfl rfl
theorem r98_1_c6 : Runs xs sl d 98 1 [l0] [.int 6] H r ↔ Runs xs sl d 98 94 [l0] [] H r := q_tsw (off := 93) (mo_98 1 rfl) rfl rfl
theorem r98_1_c7 : Runs xs sl d 98 1 [l0] [.int 7] H r ↔ Runs xs sl d 98 97 [l0] [] H r := q_tsw (off := 96) (mo_98 1 rfl) rfl rfl
theorem r98_1_c8 : Runs xs sl d 98 1 [l0] [.int 8] H r ↔ Runs xs sl d 98 97 [l0] [] H r := q_tsw (off := 96) (mo_98 1 rfl) rfl rfl
theorem r98_1_c9 : Runs xs sl d 98 1 [l0] [.int 9] H r ↔ Runs xs sl d 98 100 [l0] [] H r := q_tsw (off := 99) (mo_98 1 rfl) rfl rfl
theorem r98_1_c10 : Runs xs sl d 98 1 [l0] [.int 10] H r ↔ Runs xs sl d 98 109 [l0] [] H r := q_tsw (off := 108) (mo_98 1 rfl) rfl rfl
theorem r98_1_c11 : Runs xs sl d 98 1 [l0] [.int 11] H r ↔ Runs xs sl d 98 76 [l0] [] H r := q_tsw (off := 75) (mo_98 1 rfl) rfl rfl
theorem r98_1_c12 : Runs xs sl d 98 1 [l0] [.int 12] H r ↔ Runs xs sl d 98 79 [l0] [] H r := q_tsw (off := 78) (mo_98 1 rfl) rfl rfl
theorem r98_1_c13 : Runs xs sl d 98 1 [l0] [.int 13] H r ↔ Runs xs sl d 98 82 [l0] [] H r := q_tsw (off := 81) (mo_98 1 rfl) rfl rfl
theorem r98_1_c14 : Runs xs sl d 98 1 [l0] [.int 14] H r ↔ Runs xs sl d 98 85 [l0] [] H r := q_tsw (off := 84) (mo_98 1 rfl) rfl rfl
theorem r98_1_c15 : Runs xs sl d 98 1 [l0] [.int 15] H r ↔ Runs xs sl d 98 88 [l0] [] H r := q_tsw (off := 87) (mo_98 1 rfl) rfl rfl
theorem r98_1_c16 : Runs xs sl d 98 1 [l0] [.int 16] H r ↔ Runs xs sl d 98 91 [l0] [] H r := q_tsw (off := 90) (mo_98 1 rfl) rfl rfl
theorem r98_1_c17 : Runs xs sl d 98 1 [l0] [.int 17] H r ↔ Runs xs sl d 98 94 [l0] [] H r := q_tsw (off := 93) (mo_98 1 rfl) rfl rfl
theorem r98_1_c18 : Runs xs sl d 98 1 [l0] [.int 18] H r ↔ Runs xs sl d 98 103 [l0] [] H r := q_tsw (off := 102) (mo_98 1 rfl) rfl rfl
theorem r98_1_c19 : Runs xs sl d 98 1 [l0] [.int 19] H r ↔ Runs xs sl d 98 106 [l0] [] H r := q_tsw (off := 105) (mo_98 1 rfl) rfl rfl
theorem r98_1_d (h : u0.toInt < 5 ∨ 19 < u0.toInt) : Runs xs sl d 98 1 [l0] [.int u0] H r ↔ Runs xs sl d 98 109 [l0] [] H r := q_tswD (mo_98 1 rfl) rfl h
theorem r98_76 : Runs xs sl d 98 76 [l0] [] H r ↔ Runs xs sl d 98 78 [l0] [.retAddr 1] H r := q_ldcS (mo_98 76 rfl) mow_98 rfl rfl rfl
theorem r98_78 : Runs xs sl d 98 78 [l0] [.retAddr b0] H r ↔ r = (some (.retAddr b0), H) := q_aretR (mo_98 78 rfl) mrt_98
theorem r98_79 : Runs xs sl d 98 79 [l0] [] H r ↔ Runs xs sl d 98 81 [l0] [.retAddr 2] H r := q_ldcS (mo_98 79 rfl) mow_98 rfl rfl rfl
theorem r98_81 : Runs xs sl d 98 81 [l0] [.retAddr b0] H r ↔ r = (some (.retAddr b0), H) := q_aretR (mo_98 81 rfl) mrt_98
theorem r98_82 : Runs xs sl d 98 82 [l0] [] H r ↔ Runs xs sl d 98 84 [l0] [.retAddr 3] H r := q_ldcS (mo_98 82 rfl) mow_98 rfl rfl rfl
theorem r98_84 : Runs xs sl d 98 84 [l0] [.retAddr b0] H r ↔ r = (some (.retAddr b0), H) := q_aretR (mo_98 84 rfl) mrt_98
theorem r98_85 : Runs xs sl d 98 85 [l0] [] H r ↔ Runs xs sl d 98 87 [l0] [.retAddr 4] H r := q_ldcS (mo_98 85 rfl) mow_98 rfl rfl rfl
theorem r98_87 : Runs xs sl d 98 87 [l0] [.retAddr b0] H r ↔ r = (some (.retAddr b0), H) := q_aretR (mo_98 87 rfl) mrt_98
theorem r98_88 : Runs xs sl d 98 88 [l0] [] H r ↔ Runs xs sl d 98 90 [l0] [.retAddr 5] H r := q_ldcS (mo_98 88 rfl) mow_98 rfl rfl rfl
theorem r98_90 : Runs xs sl d 98 90 [l0] [.retAddr b0] H r ↔ r = (some (.retAddr b0), H) := q_aretR (mo_98 90 rfl) mrt_98
theorem r98_91 : Runs xs sl d 98 91 [l0] [] H r ↔ Runs xs sl d 98 93 [l0] [.retAddr 6] H r := q_ldcS (mo_98 91 rfl) mow_98 rfl rfl rfl
theorem r98_93 : Runs xs sl d 98 93 [l0] [.retAddr b0] H r ↔ r = (some (.retAddr b0), H) := q_aretR (mo_98 93 rfl) mrt_98
theorem r98_94 : Runs xs sl d 98 94 [l0] [] H r ↔ Runs xs sl d 98 96 [l0] [.retAddr 7] H r := q_ldcS (mo_98 94 rfl) mow_98 rfl rfl rfl
theorem r98_96 : Runs xs sl d 98 96 [l0] [.retAddr b0] H r ↔ r = (some (.retAddr b0), H) := q_aretR (mo_98 96 rfl) mrt_98
theorem r98_97 : Runs xs sl d 98 97 [l0] [] H r ↔ Runs xs sl d 98 99 [l0] [.retAddr 8] H r := q_ldcS (mo_98 97 rfl) mow_98 rfl rfl rfl
theorem r98_99 : Runs xs sl d 98 99 [l0] [.retAddr b0] H r ↔ r = (some (.retAddr b0), H) := q_aretR (mo_98 99 rfl) mrt_98
theorem r98_100 : Runs xs sl d 98 100 [l0] [] H r ↔ Runs xs sl d 98 102 [l0] [.retAddr 9] H r := q_ldcS (mo_98 100 rfl) mow_98 rfl rfl rfl
theorem r98_102 : Runs xs sl d 98 102 [l0] [.retAddr b0] H r ↔ r = (some (.retAddr b0), H) := q_aretR (mo_98 102 rfl) mrt_98
theorem r98_103 : Runs xs sl d 98 103 [l0] [] H r ↔ Runs xs sl d 98 105 [l0] [.retAddr 10] H r := q_ldcS (mo_98 103 rfl) mow_98 rfl rfl rfl
theorem r98_105 : Runs xs sl d 98 105 [l0] [.retAddr b0] H r ↔ r = (some (.retAddr b0), H) := q_aretR (mo_98 105 rfl) mrt_98
theorem r98_106 : Runs xs sl d 98 106 [l0] [] H r ↔ Runs xs sl d 98 108 [l0] [.retAddr 11] H r := q_ldcS (mo_98 106 rfl) mow_98 rfl rfl rfl
theorem r98_108 : Runs xs sl d 98 108 [l0] [.retAddr b0] H r ↔ r = (some (.retAddr b0), H) := q_aretR (mo_98 108 rfl) mrt_98
theorem r98_109 : Runs xs sl d 98 109 [l0] [] H r ↔ Runs xs sl d 98 111 [l0] [.retAddr 12] H r := q_ldcS (mo_98 109 rfl) mow_98 rfl rfl rfl
theorem r98_111 : Runs xs sl d 98 111 [l0] [.retAddr b0] H r ↔ r = (some (.retAddr b0), H) := q_aretR (mo_98 111 rfl) mrt_98
theorem r99_0 : Runs xs sl d 99 0 [l0, some (.int i1), l2, l3] [] H r ↔ Runs xs sl d 99 1 [l0, some (.int i1), l2, l3] [.int i1] H r := q_iload_n (mo_99 0 rfl) rfl rfl
theorem r99_1 : Runs xs sl d 99 1 [l0, l1, l2, l3] [s0] H r ↔ Runs xs sl d 99 3 [l0, l1, l2, l3] [.int 107, s0] H r := q_bipush (mo_99 1 rfl) rfl rfl
theorem r99_3 : Runs xs sl d 99 3 [l0, l1, l2, l3] [.int u1, .int u0] H r ↔ if u0 = u1 then Runs xs sl d 99 18 [l0, l1, l2, l3] [] H r else Runs xs sl d 99 6 [l0, l1, l2, l3] [] H r := q_icmp_eq (mo_99 3 rfl) rfl rfl
theorem r99_6 : Runs xs sl d 99 6 [l0, some (.int i1), l2, l3] [] H r ↔ Runs xs sl d 99 7 [l0, some (.int i1), l2, l3] [.int i1] H r := q_iload_n (mo_99 6 rfl) rfl rfl
theorem r99_7 : Runs xs sl d 99 7 [l0, l1, l2, l3] [s0] H r ↔ Runs xs sl d 99 9 [l0, l1, l2, l3] [.int 98, s0] H r := q_bipush (mo_99 7 rfl) rfl rfl
theorem r99_9 : Runs xs sl d 99 9 [l0, l1, l2, l3] [.int u1, .int u0] H r ↔ if u0 = u1 then Runs xs sl d 99 18 [l0, l1, l2, l3] [] H r else Runs xs sl d 99 12 [l0, l1, l2, l3] [] H r := q_icmp_eq (mo_99 9 rfl) rfl rfl
theorem r99_12 : Runs xs sl d 99 12 [l0, some (.int i1), l2, l3] [] H r ↔ Runs xs sl d 99 13 [l0, some (.int i1), l2, l3] [.int i1] H r := q_iload_n (mo_99 12 rfl) rfl rfl
theorem r99_13 : Runs xs sl d 99 13 [l0, l1, l2, l3] [s0] H r ↔ Runs xs sl d 99 15 [l0, l1, l2, l3] [.int 119, s0] H r := q_bipush (mo_99 13 rfl) rfl rfl
theorem r99_15 : Runs xs sl d 99 15 [l0, l1, l2, l3] [.int u1, .int u0] H r ↔ if ¬ u0 = u1 then Runs xs sl d 99 22 [l0, l1, l2, l3] [] H r else Runs xs sl d 99 18 [l0, l1, l2, l3] [] H r := q_icmp_ne (mo_99 15 rfl) rfl rfl
theorem r99_18 : Runs xs sl d 99 18 [l0, l1, l2, l3] [] H r ↔ Runs xs sl d 99 19 [l0, l1, l2, l3] [.int 1] H r := q_iconst (mo_99 18 rfl) rfl rfl
theorem r99_19 : Runs xs sl d 99 19 [l0, l1, l2, l3] [s0] H r ↔ Runs xs sl d 99 23 [l0, l1, l2, l3] [s0] H r := q_goto (mo_99 19 rfl) rfl
theorem r99_22 : Runs xs sl d 99 22 [l0, l1, l2, l3] [] H r ↔ Runs xs sl d 99 23 [l0, l1, l2, l3] [.int 0] H r := q_iconst (mo_99 22 rfl) rfl rfl
theorem r99_23 : Runs xs sl d 99 23 [l0, l1, some (.int i2), l3] [.int u0] H r ↔ Runs xs sl d 99 24 [l0, l1, some (.int i2), some (.int u0)] [] H r := q_istore_n (mo_99 23 rfl) (Nat.le_of_ble_eq_true rfl) rfl rfl
theorem r99_24 : Runs xs sl d 99 24 [some (.ref a0), l1, l2, l3] [] H r ↔ Runs xs sl d 99 25 [some (.ref a0), l1, l2, l3] [.ref a0] H r := q_aload_n (mo_99 24 rfl) rfl rfl
theorem r99_25 : Runs xs sl d 99 25 [l0, l1, l2, l3] [.ref b0] H r ↔ ∃ v, hO H b0 5 10 = some v ∧ Runs xs sl d 99 28 [l0, l1, l2, l3] [v] H r := q_getf (mo_99 25 rfl) mow_99 rfl rfl
theorem r99_28 : Runs xs sl d 99 28 [l0, l1, l2, some (.int i3)] [s0] H r ↔ Runs xs sl d 99 29 [l0, l1, l2, some (.int i3)] [.int i3, s0] H r := q_iload_n (mo_99 28 rfl) rfl rfl
theorem r99_29 : Runs xs sl d 99 29 [l0, l1, l2, l3] [.int u1, s0] H r ↔ if u1 = 0 then Runs xs sl d 99 36 [l0, l1, l2, l3] [s0] H r else Runs xs sl d 99 32 [l0, l1, l2, l3] [s0] H r := q_if_eq (mo_99 29 rfl) rfl rfl
theorem r99_32 : Runs xs sl d 99 32 [l0, l1, l2, l3] [s0] H r ↔ Runs xs sl d 99 33 [l0, l1, l2, l3] [.int 2, s0] H r := q_iconst (mo_99 32 rfl) rfl rfl
theorem r99_33 : Runs xs sl d 99 33 [l0, l1, l2, l3] [s1, s0] H r ↔ Runs xs sl d 99 37 [l0, l1, l2, l3] [s1, s0] H r := q_goto (mo_99 33 rfl) rfl
theorem r99_36 : Runs xs sl d 99 36 [l0, l1, l2, l3] [s0] H r ↔ Runs xs sl d 99 37 [l0, l1, l2, l3] [.int 3, s0] H r := q_iconst (mo_99 36 rfl) rfl rfl
theorem r99_37 : Runs xs sl d 99 37 [l0, l1, l2, l3] [.int u1, .int u0] H r ↔ if u0 = u1 then Runs xs sl d 99 42 [l0, l1, l2, l3] [] H r else Runs xs sl d 99 40 [l0, l1, l2, l3] [] H r := q_icmp_eq (mo_99 37 rfl) rfl rfl
theorem r99_40 : Runs xs sl d 99 40 [l0, l1, l2, l3] [] H r ↔ Runs xs sl d 99 41 [l0, l1, l2, l3] [.int 0] H r := q_iconst (mo_99 40 rfl) rfl rfl
theorem r99_41 (h : u0 = 0 ∨ u0 = 1) : Runs xs sl d 99 41 [l0, l1, l2, l3] [.int u0] H r ↔ r = (some (.int u0), H) := q_zret (mo_99 41 rfl) mrt_99 h
theorem r99_42 : Runs xs sl d 99 42 [l0, l1, l2, some (.int i3)] [] H r ↔ Runs xs sl d 99 43 [l0, l1, l2, some (.int i3)] [.int i3] H r := q_iload_n (mo_99 42 rfl) rfl rfl
theorem r99_43 : Runs xs sl d 99 43 [l0, l1, l2, l3] [.int u0] H r ↔ if u0 = 0 then Runs xs sl d 99 59 [l0, l1, l2, l3] [] H r else Runs xs sl d 99 46 [l0, l1, l2, l3] [] H r := q_if_eq (mo_99 43 rfl) rfl rfl
theorem r99_46 : Runs xs sl d 99 46 [l0, some (.int i1), l2, l3] [] H r ↔ Runs xs sl d 99 47 [l0, some (.int i1), l2, l3] [.int i1] H r := q_iload_n (mo_99 46 rfl) rfl rfl
theorem r99_47 : Runs xs sl d 99 47 [some (.ref a0), l1, l2, l3] [s0] H r ↔ Runs xs sl d 99 48 [some (.ref a0), l1, l2, l3] [.ref a0, s0] H r := q_aload_n (mo_99 47 rfl) rfl rfl
theorem r99_48 : Runs xs sl d 99 48 [l0, l1, l2, l3] [.ref b1, s0] H r ↔ ∃ v, hO H b1 5 12 = some v ∧ Runs xs sl d 99 51 [l0, l1, l2, l3] [v, s0] H r := q_getf (mo_99 48 rfl) mow_99 rfl rfl
theorem r99_51 : Runs xs sl (d + 1) 99 51 [l0, l1, l2, l3] [.int u1, .int u0] H r ↔ ∃ v H1, Runs xs sl d 100 0 [some (.int u0), some (.int u1)] [] H (v, H1) ∧ Runs xs sl (d + 1) 99 54 [l0, l1, l2, l3] (v.toList ++ []) H1 r := q_callS (M' := 100) (as := [.int u0, .int u1]) (rest := []) (mo_99 51 rfl) mow_99 rfl mmx_100 rfl (Nat.le_of_ble_eq_true rfl) (Nat.le_of_ble_eq_true rfl) rfl rfl
theorem r99_54 : Runs xs sl d 99 54 [l0, l1, l2, l3] [.int u0] H r ↔ if ¬ u0 = 0 then Runs xs sl d 99 59 [l0, l1, l2, l3] [] H r else Runs xs sl d 99 57 [l0, l1, l2, l3] [] H r := q_if_ne (mo_99 54 rfl) rfl rfl
theorem r99_57 : Runs xs sl d 99 57 [l0, l1, l2, l3] [] H r ↔ Runs xs sl d 99 58 [l0, l1, l2, l3] [.int 0] H r := q_iconst (mo_99 57 rfl) rfl rfl
theorem r99_58 (h : u0 = 0 ∨ u0 = 1) : Runs xs sl d 99 58 [l0, l1, l2, l3] [.int u0] H r ↔ r = (some (.int u0), H) := q_zret (mo_99 58 rfl) mrt_99 h
theorem r99_59 : Runs xs sl d 99 59 [l0, l1, l2, some (.int i3)] [] H r ↔ Runs xs sl d 99 60 [l0, l1, l2, some (.int i3)] [.int i3] H r := q_iload_n (mo_99 59 rfl) rfl rfl
theorem r99_60 : Runs xs sl d 99 60 [l0, l1, l2, l3] [.int u0] H r ↔ if ¬ u0 = 0 then Runs xs sl d 99 84 [l0, l1, l2, l3] [] H r else Runs xs sl d 99 63 [l0, l1, l2, l3] [] H r := q_if_ne (mo_99 60 rfl) rfl rfl
theorem r99_63 : Runs xs sl d 99 63 [some (.ref a0), l1, l2, l3] [] H r ↔ Runs xs sl d 99 64 [some (.ref a0), l1, l2, l3] [.ref a0] H r := q_aload_n (mo_99 63 rfl) rfl rfl
theorem r99_64 : Runs xs sl d 99 64 [l0, some (.int i1), l2, l3] [s0] H r ↔ Runs xs sl d 99 65 [l0, some (.int i1), l2, l3] [.int i1, s0] H r := q_iload_n (mo_99 64 rfl) rfl rfl
theorem r99_65 : Runs xs sl d 99 65 [some (.ref a0), l1, l2, l3] [s1, s0] H r ↔ Runs xs sl d 99 66 [some (.ref a0), l1, l2, l3] [.ref a0, s1, s0] H r := q_aload_n (mo_99 65 rfl) rfl rfl
theorem r99_66 : Runs xs sl d 99 66 [l0, l1, l2, l3] [.ref b2, s1, s0] H r ↔ ∃ v, hO H b2 5 12 = some v ∧ Runs xs sl d 99 69 [l0, l1, l2, l3] [v, s1, s0] H r := q_getf (mo_99 66 rfl) mow_99 rfl rfl
theorem r99_69 (hc : hC H b0 = some 5) : Runs xs sl (d + 1) 99 69 [l0, l1, l2, l3] [.int u2, .int u1, .ref b0] H r ↔ ∃ v H1, Runs xs sl d 101 0 [some (.ref b0), some (.int u1), some (.int u2)] [] H (v, H1) ∧ Runs xs sl (d + 1) 99 72 [l0, l1, l2, l3] (v.toList ++ []) H1 r := q_callV (M' := 101) (as := [.int u1, .int u2]) (rest := []) (mo_99 69 rfl) mow_99 rfl mcs_101 mmx_101 rfl (Nat.le_of_ble_eq_true rfl) (Nat.le_of_ble_eq_true rfl) rfl rfl hc
theorem r99_72 : Runs xs sl d 99 72 [l0, l1, l2, l3] [.int u0] H r ↔ if ¬ u0 = 0 then Runs xs sl d 99 84 [l0, l1, l2, l3] [] H r else Runs xs sl d 99 75 [l0, l1, l2, l3] [] H r := q_if_ne (mo_99 72 rfl) rfl rfl
theorem r99_75 : Runs xs sl d 99 75 [some (.ref a0), l1, l2, l3] [] H r ↔ Runs xs sl d 99 76 [some (.ref a0), l1, l2, l3] [.ref a0] H r := q_aload_n (mo_99 75 rfl) rfl rfl
theorem r99_76 : Runs xs sl d 99 76 [l0, l1, l2, l3] [s0] H r ↔ Runs xs sl d 99 77 [l0, l1, l2, l3] [.int 2, s0] H r := q_iconst (mo_99 76 rfl) rfl rfl
theorem r99_77 : Runs xs sl d 99 77 [some (.ref a0), l1, l2, l3] [s1, s0] H r ↔ Runs xs sl d 99 78 [some (.ref a0), l1, l2, l3] [.ref a0, s1, s0] H r := q_aload_n (mo_99 77 rfl) rfl rfl
theorem r99_78 : Runs xs sl d 99 78 [l0, l1, l2, l3] [.ref b2, s1, s0] H r ↔ ∃ v, hO H b2 5 11 = some v ∧ Runs xs sl d 99 81 [l0, l1, l2, l3] [v, s1, s0] H r := q_getf (mo_99 78 rfl) mow_99 rfl rfl
theorem r99_81 (hc : hC H b0 = some 5) : Runs xs sl (d + 1) 99 81 [l0, l1, l2, l3] [.int u2, .int u1, .ref b0] H r ↔ ∃ v H1, Runs xs sl d 97 0 [some (.ref b0), some (.int u1), some (.int u2)] [] H (v, H1) ∧ Runs xs sl (d + 1) 99 84 [l0, l1, l2, l3] (v.toList ++ []) H1 r := q_callV (M' := 97) (as := [.int u1, .int u2]) (rest := []) (mo_99 81 rfl) mow_99 rfl mcs_97 mmx_97 rfl (Nat.le_of_ble_eq_true rfl) (Nat.le_of_ble_eq_true rfl) rfl rfl hc
theorem r99_84 : Runs xs sl d 99 84 [l0, l1, some (.int i2), l3] [] H r ↔ Runs xs sl d 99 85 [l0, l1, some (.int i2), l3] [.int i2] H r := q_iload_n (mo_99 84 rfl) rfl rfl
theorem r99_85 : Runs xs sl d 99 85 [l0, l1, l2, l3] [.int u0] H r ↔ if u0 < 0 then Runs xs sl d 99 107 [l0, l1, l2, l3] [] H r else Runs xs sl d 99 88 [l0, l1, l2, l3] [] H r := q_if_lt (mo_99 85 rfl) rfl rfl
theorem r99_88 : Runs xs sl d 99 88 [l0, l1, some (.int i2), l3] [] H r ↔ Runs xs sl d 99 89 [l0, l1, some (.int i2), l3] [.int i2] H r := q_iload_n (mo_99 88 rfl) rfl rfl
theorem r99_89 : Runs xs sl d 99 89 [some (.ref a0), l1, l2, l3] [s0] H r ↔ Runs xs sl d 99 90 [some (.ref a0), l1, l2, l3] [.ref a0, s0] H r := q_aload_n (mo_99 89 rfl) rfl rfl
theorem r99_90 : Runs xs sl d 99 90 [l0, l1, l2, l3] [.ref b1, s0] H r ↔ ∃ v, hO H b1 5 5 = some v ∧ Runs xs sl d 99 93 [l0, l1, l2, l3] [v, s0] H r := q_getf (mo_99 90 rfl) mow_99 rfl rfl
theorem r99_93 : Runs xs sl d 99 93 [l0, l1, l2, l3] [.ref b1, s0] H r ↔ ∃ v, hLen H b1 = some v ∧ Runs xs sl d 99 94 [l0, l1, l2, l3] [.int v, s0] H r := run_alen (mo_99 93 rfl) rfl
theorem r99_94 : Runs xs sl d 99 94 [l0, l1, l2, l3] [.int u1, .int u0] H r ↔ if u1 ≤ u0 then Runs xs sl d 99 107 [l0, l1, l2, l3] [] H r else Runs xs sl d 99 97 [l0, l1, l2, l3] [] H r := q_icmp_ge (mo_99 94 rfl) rfl rfl
theorem r99_97 : Runs xs sl d 99 97 [some (.ref a0), l1, l2, l3] [] H r ↔ Runs xs sl d 99 98 [some (.ref a0), l1, l2, l3] [.ref a0] H r := q_aload_n (mo_99 97 rfl) rfl rfl
theorem r99_98 : Runs xs sl d 99 98 [l0, l1, l2, l3] [.ref b0] H r ↔ ∃ v, hO H b0 5 5 = some v ∧ Runs xs sl d 99 101 [l0, l1, l2, l3] [v] H r := q_getf (mo_99 98 rfl) mow_99 rfl rfl
theorem r99_101 : Runs xs sl d 99 101 [l0, l1, some (.int i2), l3] [s0] H r ↔ Runs xs sl d 99 102 [l0, l1, some (.int i2), l3] [.int i2, s0] H r := q_iload_n (mo_99 101 rfl) rfl rfl
theorem r99_102 : Runs xs sl d 99 102 [some (.ref a0), l1, l2, l3] [s1, s0] H r ↔ Runs xs sl d 99 103 [some (.ref a0), l1, l2, l3] [.ref a0, s1, s0] H r := q_aload_n (mo_99 102 rfl) rfl rfl
theorem r99_103 : Runs xs sl d 99 103 [l0, l1, l2, l3] [.ref b2, s1, s0] H r ↔ ∃ v, hO H b2 5 12 = some v ∧ Runs xs sl d 99 106 [l0, l1, l2, l3] [v, s1, s0] H r := q_getf (mo_99 103 rfl) mow_99 rfl rfl
theorem r99_106 : Runs xs sl d 99 106 [l0, l1, l2, l3] [.int u2, .int u1, .ref b0] H r ↔ ∃ H1, hAw H b0 0 u1 u2 = some H1 ∧ Runs xs sl d 99 107 [l0, l1, l2, l3] [] H1 r := run_iast (mo_99 106 rfl) rfl
theorem r99_107 : Runs xs sl d 99 107 [l0, l1, l2, l3] [] H r ↔ Runs xs sl d 99 108 [l0, l1, l2, l3] [.int 1] H r := q_iconst (mo_99 107 rfl) rfl rfl
theorem r99_108 (h : u0 = 0 ∨ u0 = 1) : Runs xs sl d 99 108 [l0, l1, l2, l3] [.int u0] H r ↔ r = (some (.int u0), H) := q_zret (mo_99 108 rfl) mrt_99 h
theorem r100_0 : Runs xs sl d 100 0 [some (.int i0), l1] [] H r ↔ Runs xs sl d 100 1 [some (.int i0), l1] [.int i0] H r := q_iload_n (mo_100 0 rfl) rfl rfl
theorem r100_1_c98 : Runs xs sl d 100 1 [l0, l1] [.int 98] H r ↔ Runs xs sl d 100 43 [l0, l1] [] H r := q_lsw (mo_100 1 rfl) rfl rfl
theorem r100_1_c107 : Runs xs sl d 100 1 [l0, l1] [.int 107] H r ↔ Runs xs sl d 100 28 [l0, l1] [] H r := q_lsw (mo_100 1 rfl) rfl rfl
theorem r100_1_d (h : Op.lookupswitch.offset [(98, 42), (107, 27)] 63 u0.toInt = 63) : Runs xs sl d 100 1 [l0, l1] [.int u0] H r ↔ Runs xs sl d 100 64 [l0, l1] [] H r := q_lsw (mo_100 1 rfl) rfl (by rw [show (#[(98, 42), (107, 27)] : Array (Int × Int)).toList = [(98, 42), (107, 27)] from rfl, h]; rfl)
theorem r100_28 : Runs xs sl d 100 28 [l0, some (.int i1)] [] H r ↔ Runs xs sl d 100 29 [l0, some (.int i1)] [.int i1] H r := q_iload_n (mo_100 28 rfl) rfl rfl
theorem r100_29 : Runs xs sl d 100 29 [l0, l1] [.int u0] H r ↔ if u0 < 0 then Runs xs sl d 100 41 [l0, l1] [] H r else Runs xs sl d 100 32 [l0, l1] [] H r := q_if_lt (mo_100 29 rfl) rfl rfl
theorem r100_32 : Runs xs sl d 100 32 [l0, some (.int i1)] [] H r ↔ Runs xs sl d 100 33 [l0, some (.int i1)] [.int i1] H r := q_iload_n (mo_100 32 rfl) rfl rfl
theorem r100_33 : Runs xs sl d 100 33 [l0, l1] [s0] H r ↔ Runs xs sl d 100 34 [l0, l1] [.int 4, s0] H r := q_iconst (mo_100 33 rfl) rfl rfl
theorem r100_34 : Runs xs sl d 100 34 [l0, l1] [.int u1, .int u0] H r ↔ if u1 < u0 then Runs xs sl d 100 41 [l0, l1] [] H r else Runs xs sl d 100 37 [l0, l1] [] H r := q_icmp_gt (mo_100 34 rfl) rfl rfl
theorem r100_37 : Runs xs sl d 100 37 [l0, l1] [] H r ↔ Runs xs sl d 100 38 [l0, l1] [.int 1] H r := q_iconst (mo_100 37 rfl) rfl rfl
theorem r100_38 : Runs xs sl d 100 38 [l0, l1] [s0] H r ↔ Runs xs sl d 100 42 [l0, l1] [s0] H r := q_goto (mo_100 38 rfl) rfl
theorem r100_41 : Runs xs sl d 100 41 [l0, l1] [] H r ↔ Runs xs sl d 100 42 [l0, l1] [.int 0] H r := q_iconst (mo_100 41 rfl) rfl rfl
theorem r100_42 (h : u0 = 0 ∨ u0 = 1) : Runs xs sl d 100 42 [l0, l1] [.int u0] H r ↔ r = (some (.int u0), H) := q_zret (mo_100 42 rfl) mrt_100 h
theorem r100_43 : Runs xs sl d 100 43 [l0, some (.int i1)] [] H r ↔ Runs xs sl d 100 44 [l0, some (.int i1)] [.int i1] H r := q_iload_n (mo_100 43 rfl) rfl rfl
theorem r100_44 : Runs xs sl d 100 44 [l0, l1] [s0] H r ↔ Runs xs sl d 100 45 [l0, l1] [.int 1, s0] H r := q_iconst (mo_100 44 rfl) rfl rfl
theorem r100_45 : Runs xs sl d 100 45 [l0, l1] [.int u1, .int u0] H r ↔ if u0 = u1 then Runs xs sl d 100 58 [l0, l1] [] H r else Runs xs sl d 100 48 [l0, l1] [] H r := q_icmp_eq (mo_100 45 rfl) rfl rfl
theorem r100_48 : Runs xs sl d 100 48 [l0, some (.int i1)] [] H r ↔ Runs xs sl d 100 49 [l0, some (.int i1)] [.int i1] H r := q_iload_n (mo_100 48 rfl) rfl rfl
theorem r100_49 : Runs xs sl d 100 49 [l0, l1] [s0] H r ↔ Runs xs sl d 100 50 [l0, l1] [.int 3, s0] H r := q_iconst (mo_100 49 rfl) rfl rfl
theorem r100_50 : Runs xs sl d 100 50 [l0, l1] [.int u1, .int u0] H r ↔ if u0 = u1 then Runs xs sl d 100 58 [l0, l1] [] H r else Runs xs sl d 100 53 [l0, l1] [] H r := q_icmp_eq (mo_100 50 rfl) rfl rfl
theorem r100_53 : Runs xs sl d 100 53 [l0, some (.int i1)] [] H r ↔ Runs xs sl d 100 54 [l0, some (.int i1)] [.int i1] H r := q_iload_n (mo_100 53 rfl) rfl rfl
theorem r100_54 : Runs xs sl d 100 54 [l0, l1] [s0] H r ↔ Runs xs sl d 100 55 [l0, l1] [.int 4, s0] H r := q_iconst (mo_100 54 rfl) rfl rfl
theorem r100_55 : Runs xs sl d 100 55 [l0, l1] [.int u1, .int u0] H r ↔ if ¬ u0 = u1 then Runs xs sl d 100 62 [l0, l1] [] H r else Runs xs sl d 100 58 [l0, l1] [] H r := q_icmp_ne (mo_100 55 rfl) rfl rfl
theorem r100_58 : Runs xs sl d 100 58 [l0, l1] [] H r ↔ Runs xs sl d 100 59 [l0, l1] [.int 1] H r := q_iconst (mo_100 58 rfl) rfl rfl
theorem r100_59 : Runs xs sl d 100 59 [l0, l1] [s0] H r ↔ Runs xs sl d 100 63 [l0, l1] [s0] H r := q_goto (mo_100 59 rfl) rfl
theorem r100_62 : Runs xs sl d 100 62 [l0, l1] [] H r ↔ Runs xs sl d 100 63 [l0, l1] [.int 0] H r := q_iconst (mo_100 62 rfl) rfl rfl
theorem r100_63 (h : u0 = 0 ∨ u0 = 1) : Runs xs sl d 100 63 [l0, l1] [.int u0] H r ↔ r = (some (.int u0), H) := q_zret (mo_100 63 rfl) mrt_100 h
theorem r100_64 : Runs xs sl d 100 64 [l0, some (.int i1)] [] H r ↔ Runs xs sl d 100 65 [l0, some (.int i1)] [.int i1] H r := q_iload_n (mo_100 64 rfl) rfl rfl
theorem r100_65 : Runs xs sl d 100 65 [l0, l1] [s0] H r ↔ Runs xs sl d 100 67 [l0, l1] [.int 20, s0] H r := q_bipush (mo_100 65 rfl) rfl rfl
theorem r100_67 : Runs xs sl d 100 67 [l0, l1] [.int u1, .int u0] H r ↔ if u0 = u1 then Runs xs sl d 100 76 [l0, l1] [] H r else Runs xs sl d 100 70 [l0, l1] [] H r := q_icmp_eq (mo_100 67 rfl) rfl rfl
theorem r100_70 : Runs xs sl d 100 70 [l0, some (.int i1)] [] H r ↔ Runs xs sl d 100 71 [l0, some (.int i1)] [.int i1] H r := q_iload_n (mo_100 70 rfl) rfl rfl
theorem r100_71 : Runs xs sl d 100 71 [l0, l1] [s0] H r ↔ Runs xs sl d 100 73 [l0, l1] [.int 21, s0] H r := q_bipush (mo_100 71 rfl) rfl rfl
theorem r100_73 : Runs xs sl d 100 73 [l0, l1] [.int u1, .int u0] H r ↔ if ¬ u0 = u1 then Runs xs sl d 100 80 [l0, l1] [] H r else Runs xs sl d 100 76 [l0, l1] [] H r := q_icmp_ne (mo_100 73 rfl) rfl rfl
theorem r100_76 : Runs xs sl d 100 76 [l0, l1] [] H r ↔ Runs xs sl d 100 77 [l0, l1] [.int 1] H r := q_iconst (mo_100 76 rfl) rfl rfl
theorem r100_77 : Runs xs sl d 100 77 [l0, l1] [s0] H r ↔ Runs xs sl d 100 81 [l0, l1] [s0] H r := q_goto (mo_100 77 rfl) rfl
theorem r100_80 : Runs xs sl d 100 80 [l0, l1] [] H r ↔ Runs xs sl d 100 81 [l0, l1] [.int 0] H r := q_iconst (mo_100 80 rfl) rfl rfl
theorem r100_81 (h : u0 = 0 ∨ u0 = 1) : Runs xs sl d 100 81 [l0, l1] [.int u0] H r ↔ r = (some (.int u0), H) := q_zret (mo_100 81 rfl) mrt_100 h
theorem r101_0 : Runs xs sl d 101 0 [l0, some (.int i1), l2] [] H r ↔ Runs xs sl d 101 1 [l0, some (.int i1), l2] [.int i1] H r := q_iload_n (mo_101 0 rfl) rfl rfl
theorem r101_1_c97 : Runs xs sl d 101 1 [l0, l1, l2] [.int 97] H r ↔ Runs xs sl d 101 178 [l0, l1, l2] [] H r := q_tsw (off := 177) (mo_101 1 rfl) rfl rfl
theorem r101_1_c98 : Runs xs sl d 101 1 [l0, l1, l2] [.int 98] H r ↔ Runs xs sl d 101 235 [l0, l1, l2] [] H r := q_tsw (off := 234) (mo_101 1 rfl) rfl rfl
theorem r101_1_c99 : Runs xs sl d 101 1 [l0, l1, l2] [.int 99] H r ↔ Runs xs sl d 101 120 [l0, l1, l2] [] H r := q_tsw (off := 119) (mo_101 1 rfl) rfl rfl
theorem r101_1_c100 : Runs xs sl d 101 1 [l0, l1, l2] [.int 100] H r ↔ Runs xs sl d 101 235 [l0, l1, l2] [] H r := q_tsw (off := 234) (mo_101 1 rfl) rfl rfl
theorem r101_1_c101 : Runs xs sl d 101 1 [l0, l1, l2] [.int 101] H r ↔ Runs xs sl d 101 235 [l0, l1, l2] [] H r := q_tsw (off := 234) (mo_101 1 rfl) rfl rfl
theorem r101_1_c102 : Runs xs sl d 101 1 [l0, l1, l2] [.int 102] H r ↔ Runs xs sl d 101 235 [l0, l1, l2] [] H r := q_tsw (off := 234) (mo_101 1 rfl) rfl rfl
theorem r101_1_c103 : Runs xs sl d 101 1 [l0, l1, l2] [.int 103] H r ↔ Runs xs sl d 101 235 [l0, l1, l2] [] H r := q_tsw (off := 234) (mo_101 1 rfl) rfl rfl
theorem r101_1_c104 : Runs xs sl d 101 1 [l0, l1, l2] [.int 104] H r ↔ Runs xs sl d 101 166 [l0, l1, l2] [] H r := q_tsw (off := 165) (mo_101 1 rfl) rfl rfl
theorem r101_1_c105 : Runs xs sl d 101 1 [l0, l1, l2] [.int 105] H r ↔ Runs xs sl d 101 235 [l0, l1, l2] [] H r := q_tsw (off := 234) (mo_101 1 rfl) rfl rfl
theorem r101_1_c106 : Runs xs sl d 101 1 [l0, l1, l2] [.int 106] H r ↔ Runs xs sl d 101 235 [l0, l1, l2] [] H r := q_tsw (off := 234) (mo_101 1 rfl) rfl rfl
theorem r101_1_c107 : Runs xs sl d 101 1 [l0, l1, l2] [.int 107] H r ↔ Runs xs sl d 101 235 [l0, l1, l2] [] H r := q_tsw (off := 234) (mo_101 1 rfl) rfl rfl
theorem r101_1_c108 : Runs xs sl d 101 1 [l0, l1, l2] [.int 108] H r ↔ Runs xs sl d 101 223 [l0, l1, l2] [] H r := q_tsw (off := 222) (mo_101 1 rfl) rfl rfl
theorem r101_1_c109 : Runs xs sl d 101 1 [l0, l1, l2] [.int 109] H r ↔ Runs xs sl d 101 235 [l0, l1, l2] [] H r := q_tsw (off := 234) (mo_101 1 rfl) rfl rfl
theorem r101_1_c110 : Runs xs sl d 101 1 [l0, l1, l2] [.int 110] H r ↔ Runs xs sl d 101 137 [l0, l1, l2] [] H r := q_tsw (off := 136) (mo_101 1 rfl) rfl rfl
theorem r101_1_c111 : Runs xs sl d 101 1 [l0, l1, l2] [.int 111] H r ↔ Runs xs sl d 101 212 [l0, l1, l2] [] H r := q_tsw (off := 211) (mo_101 1 rfl) rfl rfl
theorem r101_1_c112 : Runs xs sl d 101 1 [l0, l1, l2] [.int 112] H r ↔ Runs xs sl d 101 235 [l0, l1, l2] [] H r := q_tsw (off := 234) (mo_101 1 rfl) rfl rfl
theorem r101_1_c113 : Runs xs sl d 101 1 [l0, l1, l2] [.int 113] H r ↔ Runs xs sl d 101 235 [l0, l1, l2] [] H r := q_tsw (off := 234) (mo_101 1 rfl) rfl rfl
theorem r101_1_c114 : Runs xs sl d 101 1 [l0, l1, l2] [.int 114] H r ↔ Runs xs sl d 101 235 [l0, l1, l2] [] H r := q_tsw (off := 234) (mo_101 1 rfl) rfl rfl
theorem r101_1_c115 : Runs xs sl d 101 1 [l0, l1, l2] [.int 115] H r ↔ Runs xs sl d 101 235 [l0, l1, l2] [] H r := q_tsw (off := 234) (mo_101 1 rfl) rfl rfl
theorem r101_1_c116 : Runs xs sl d 101 1 [l0, l1, l2] [.int 116] H r ↔ Runs xs sl d 101 200 [l0, l1, l2] [] H r := q_tsw (off := 199) (mo_101 1 rfl) rfl rfl
theorem r101_1_c117 : Runs xs sl d 101 1 [l0, l1, l2] [.int 117] H r ↔ Runs xs sl d 101 235 [l0, l1, l2] [] H r := q_tsw (off := 234) (mo_101 1 rfl) rfl rfl
theorem r101_1_c118 : Runs xs sl d 101 1 [l0, l1, l2] [.int 118] H r ↔ Runs xs sl d 101 235 [l0, l1, l2] [] H r := q_tsw (off := 234) (mo_101 1 rfl) rfl rfl
theorem r101_1_c119 : Runs xs sl d 101 1 [l0, l1, l2] [.int 119] H r ↔ Runs xs sl d 101 235 [l0, l1, l2] [] H r := q_tsw (off := 234) (mo_101 1 rfl) rfl rfl
theorem r101_1_c120 : Runs xs sl d 101 1 [l0, l1, l2] [.int 120] H r ↔ Runs xs sl d 101 235 [l0, l1, l2] [] H r := q_tsw (off := 234) (mo_101 1 rfl) rfl rfl
theorem r101_1_c121 : Runs xs sl d 101 1 [l0, l1, l2] [.int 121] H r ↔ Runs xs sl d 101 235 [l0, l1, l2] [] H r := q_tsw (off := 234) (mo_101 1 rfl) rfl rfl
theorem r101_1_c122 : Runs xs sl d 101 1 [l0, l1, l2] [.int 122] H r ↔ Runs xs sl d 101 154 [l0, l1, l2] [] H r := q_tsw (off := 153) (mo_101 1 rfl) rfl rfl
theorem r101_1_d (h : u0.toInt < 97 ∨ 122 < u0.toInt) : Runs xs sl d 101 1 [l0, l1, l2] [.int u0] H r ↔ Runs xs sl d 101 235 [l0, l1, l2] [] H r := q_tswD (mo_101 1 rfl) rfl h
theorem r101_120 : Runs xs sl d 101 120 [l0, l1, some (.int i2)] [] H r ↔ Runs xs sl d 101 121 [l0, l1, some (.int i2)] [.int i2] H r := q_iload_n (mo_101 120 rfl) rfl rfl
theorem r101_121 : Runs xs sl d 101 121 [l0, l1, l2] [s0] H r ↔ Runs xs sl d 101 122 [l0, l1, l2] [.int 1, s0] H r := q_iconst (mo_101 121 rfl) rfl rfl
theorem r101_122 : Runs xs sl d 101 122 [l0, l1, l2] [.int u1, .int u0] H r ↔ if u0 < u1 then Runs xs sl d 101 135 [l0, l1, l2] [] H r else Runs xs sl d 101 125 [l0, l1, l2] [] H r := q_icmp_lt (mo_101 122 rfl) rfl rfl
theorem r101_125 : Runs xs sl d 101 125 [l0, l1, some (.int i2)] [] H r ↔ Runs xs sl d 101 126 [l0, l1, some (.int i2)] [.int i2] H r := q_iload_n (mo_101 125 rfl) rfl rfl
theorem r101_126 : Runs xs sl d 101 126 [l0, l1, l2] [s0] H r ↔ Runs xs sl d 101 128 [l0, l1, l2] [.int 6, s0] H r := q_bipush (mo_101 126 rfl) rfl rfl
theorem r101_128 : Runs xs sl d 101 128 [l0, l1, l2] [.int u1, .int u0] H r ↔ if u1 < u0 then Runs xs sl d 101 135 [l0, l1, l2] [] H r else Runs xs sl d 101 131 [l0, l1, l2] [] H r := q_icmp_gt (mo_101 128 rfl) rfl rfl
theorem r101_131 : Runs xs sl d 101 131 [l0, l1, l2] [] H r ↔ Runs xs sl d 101 132 [l0, l1, l2] [.int 1] H r := q_iconst (mo_101 131 rfl) rfl rfl
theorem r101_132 : Runs xs sl d 101 132 [l0, l1, l2] [s0] H r ↔ Runs xs sl d 101 136 [l0, l1, l2] [s0] H r := q_goto (mo_101 132 rfl) rfl
theorem r101_135 : Runs xs sl d 101 135 [l0, l1, l2] [] H r ↔ Runs xs sl d 101 136 [l0, l1, l2] [.int 0] H r := q_iconst (mo_101 135 rfl) rfl rfl
theorem r101_136 (h : u0 = 0 ∨ u0 = 1) : Runs xs sl d 101 136 [l0, l1, l2] [.int u0] H r ↔ r = (some (.int u0), H) := q_zret (mo_101 136 rfl) mrt_101 h
theorem r101_137 : Runs xs sl d 101 137 [l0, l1, some (.int i2)] [] H r ↔ Runs xs sl d 101 138 [l0, l1, some (.int i2)] [.int i2] H r := q_iload_n (mo_101 137 rfl) rfl rfl
theorem r101_138 : Runs xs sl d 101 138 [l0, l1, l2] [s0] H r ↔ Runs xs sl d 101 139 [l0, l1, l2] [.int 1, s0] H r := q_iconst (mo_101 138 rfl) rfl rfl
theorem r101_139 : Runs xs sl d 101 139 [l0, l1, l2] [.int u1, .int u0] H r ↔ if u0 < u1 then Runs xs sl d 101 152 [l0, l1, l2] [] H r else Runs xs sl d 101 142 [l0, l1, l2] [] H r := q_icmp_lt (mo_101 139 rfl) rfl rfl
theorem r101_142 : Runs xs sl d 101 142 [l0, l1, some (.int i2)] [] H r ↔ Runs xs sl d 101 143 [l0, l1, some (.int i2)] [.int i2] H r := q_iload_n (mo_101 142 rfl) rfl rfl
theorem r101_143 : Runs xs sl d 101 143 [l0, l1, l2] [s0] H r ↔ Runs xs sl d 101 145 [l0, l1, l2] [.int 9, s0] H r := q_bipush (mo_101 143 rfl) rfl rfl
theorem r101_145 : Runs xs sl d 101 145 [l0, l1, l2] [.int u1, .int u0] H r ↔ if u1 < u0 then Runs xs sl d 101 152 [l0, l1, l2] [] H r else Runs xs sl d 101 148 [l0, l1, l2] [] H r := q_icmp_gt (mo_101 145 rfl) rfl rfl
theorem r101_148 : Runs xs sl d 101 148 [l0, l1, l2] [] H r ↔ Runs xs sl d 101 149 [l0, l1, l2] [.int 1] H r := q_iconst (mo_101 148 rfl) rfl rfl
theorem r101_149 : Runs xs sl d 101 149 [l0, l1, l2] [s0] H r ↔ Runs xs sl d 101 153 [l0, l1, l2] [s0] H r := q_goto (mo_101 149 rfl) rfl
theorem r101_152 : Runs xs sl d 101 152 [l0, l1, l2] [] H r ↔ Runs xs sl d 101 153 [l0, l1, l2] [.int 0] H r := q_iconst (mo_101 152 rfl) rfl rfl
theorem r101_153 (h : u0 = 0 ∨ u0 = 1) : Runs xs sl d 101 153 [l0, l1, l2] [.int u0] H r ↔ r = (some (.int u0), H) := q_zret (mo_101 153 rfl) mrt_101 h
theorem r101_154 : Runs xs sl d 101 154 [l0, l1, some (.int i2)] [] H r ↔ Runs xs sl d 101 155 [l0, l1, some (.int i2)] [.int i2] H r := q_iload_n (mo_101 154 rfl) rfl rfl
theorem r101_155 : Runs xs sl d 101 155 [l0, l1, l2] [s0] H r ↔ Runs xs sl d 101 157 [l0, l1, l2] [.int 9, s0] H r := q_bipush (mo_101 155 rfl) rfl rfl
theorem r101_157 : Runs xs sl d 101 157 [l0, l1, l2] [.int u1, .int u0] H r ↔ if u1 < u0 then Runs xs sl d 101 164 [l0, l1, l2] [] H r else Runs xs sl d 101 160 [l0, l1, l2] [] H r := q_icmp_gt (mo_101 157 rfl) rfl rfl
theorem r101_160 : Runs xs sl d 101 160 [l0, l1, l2] [] H r ↔ Runs xs sl d 101 161 [l0, l1, l2] [.int 1] H r := q_iconst (mo_101 160 rfl) rfl rfl
theorem r101_161 : Runs xs sl d 101 161 [l0, l1, l2] [s0] H r ↔ Runs xs sl d 101 165 [l0, l1, l2] [s0] H r := q_goto (mo_101 161 rfl) rfl
theorem r101_164 : Runs xs sl d 101 164 [l0, l1, l2] [] H r ↔ Runs xs sl d 101 165 [l0, l1, l2] [.int 0] H r := q_iconst (mo_101 164 rfl) rfl rfl
theorem r101_165 (h : u0 = 0 ∨ u0 = 1) : Runs xs sl d 101 165 [l0, l1, l2] [.int u0] H r ↔ r = (some (.int u0), H) := q_zret (mo_101 165 rfl) mrt_101 h
theorem r101_166 : Runs xs sl d 101 166 [l0, l1, some (.int i2)] [] H r ↔ Runs xs sl d 101 167 [l0, l1, some (.int i2)] [.int i2] H r := q_iload_n (mo_101 166 rfl) rfl rfl
theorem r101_167 : Runs xs sl d 101 167 [l0, l1, l2] [s0] H r ↔ Runs xs sl d 101 169 [l0, l1, l2] [.int 8, s0] H r := q_bipush (mo_101 167 rfl) rfl rfl
theorem r101_169 : Runs xs sl d 101 169 [l0, l1, l2] [.int u1, .int u0] H r ↔ if u1 ≤ u0 then Runs xs sl d 101 176 [l0, l1, l2] [] H r else Runs xs sl d 101 172 [l0, l1, l2] [] H r := q_icmp_ge (mo_101 169 rfl) rfl rfl
theorem r101_172 : Runs xs sl d 101 172 [l0, l1, l2] [] H r ↔ Runs xs sl d 101 173 [l0, l1, l2] [.int 1] H r := q_iconst (mo_101 172 rfl) rfl rfl
theorem r101_173 : Runs xs sl d 101 173 [l0, l1, l2] [s0] H r ↔ Runs xs sl d 101 177 [l0, l1, l2] [s0] H r := q_goto (mo_101 173 rfl) rfl
theorem r101_176 : Runs xs sl d 101 176 [l0, l1, l2] [] H r ↔ Runs xs sl d 101 177 [l0, l1, l2] [.int 0] H r := q_iconst (mo_101 176 rfl) rfl rfl
theorem r101_177 (h : u0 = 0 ∨ u0 = 1) : Runs xs sl d 101 177 [l0, l1, l2] [.int u0] H r ↔ r = (some (.int u0), H) := q_zret (mo_101 177 rfl) mrt_101 h
theorem r101_178 : Runs xs sl d 101 178 [l0, l1, some (.int i2)] [] H r ↔ Runs xs sl d 101 179 [l0, l1, some (.int i2)] [.int i2] H r := q_iload_n (mo_101 178 rfl) rfl rfl
theorem r101_179 : Runs xs sl d 101 179 [l0, l1, l2] [s0] H r ↔ Runs xs sl d 101 181 [l0, l1, l2] [.int 8, s0] H r := q_bipush (mo_101 179 rfl) rfl rfl
theorem r101_181 : Runs xs sl d 101 181 [l0, l1, l2] [.int u1, .int u0] H r ↔ if u1 ≤ u0 then Runs xs sl d 101 198 [l0, l1, l2] [] H r else Runs xs sl d 101 184 [l0, l1, l2] [] H r := q_icmp_ge (mo_101 181 rfl) rfl rfl
theorem r101_184 : Runs xs sl d 101 184 [l0, l1, some (.int i2)] [] H r ↔ Runs xs sl d 101 185 [l0, l1, some (.int i2)] [.int i2] H r := q_iload_n (mo_101 184 rfl) rfl rfl
theorem r101_185 : Runs xs sl d 101 185 [some (.ref a0), l1, l2] [s0] H r ↔ Runs xs sl d 101 186 [some (.ref a0), l1, l2] [.ref a0, s0] H r := q_aload_n (mo_101 185 rfl) rfl rfl
theorem r101_186 : Runs xs sl d 101 186 [l0, l1, l2] [.ref b1, s0] H r ↔ ∃ v, hO H b1 5 5 = some v ∧ Runs xs sl d 101 189 [l0, l1, l2] [v, s0] H r := q_getf (mo_101 186 rfl) mow_101 rfl rfl
theorem r101_189 : Runs xs sl d 101 189 [l0, l1, l2] [s1, s0] H r ↔ Runs xs sl d 101 190 [l0, l1, l2] [.int 0, s1, s0] H r := q_iconst (mo_101 189 rfl) rfl rfl
theorem r101_190 : Runs xs sl d 101 190 [l0, l1, l2] [.int u2, .ref b1, s0] H r ↔ ∃ v, hA H b1 0 u2 = some v ∧ Runs xs sl d 101 191 [l0, l1, l2] [.int v, s0] H r := run_iald (mo_101 190 rfl) rfl
theorem r101_191 : Runs xs sl d 101 191 [l0, l1, l2] [.int u1, .int u0] H r ↔ if u0 = u1 then Runs xs sl d 101 198 [l0, l1, l2] [] H r else Runs xs sl d 101 194 [l0, l1, l2] [] H r := q_icmp_eq (mo_101 191 rfl) rfl rfl
theorem r101_194 : Runs xs sl d 101 194 [l0, l1, l2] [] H r ↔ Runs xs sl d 101 195 [l0, l1, l2] [.int 1] H r := q_iconst (mo_101 194 rfl) rfl rfl
theorem r101_195 : Runs xs sl d 101 195 [l0, l1, l2] [s0] H r ↔ Runs xs sl d 101 199 [l0, l1, l2] [s0] H r := q_goto (mo_101 195 rfl) rfl
theorem r101_198 : Runs xs sl d 101 198 [l0, l1, l2] [] H r ↔ Runs xs sl d 101 199 [l0, l1, l2] [.int 0] H r := q_iconst (mo_101 198 rfl) rfl rfl
theorem r101_199 (h : u0 = 0 ∨ u0 = 1) : Runs xs sl d 101 199 [l0, l1, l2] [.int u0] H r ↔ r = (some (.int u0), H) := q_zret (mo_101 199 rfl) mrt_101 h
theorem r101_200 : Runs xs sl d 101 200 [l0, l1, some (.int i2)] [] H r ↔ Runs xs sl d 101 201 [l0, l1, some (.int i2)] [.int i2] H r := q_iload_n (mo_101 200 rfl) rfl rfl
theorem r101_201 : Runs xs sl d 101 201 [l0, l1, l2] [s0] H r ↔ Runs xs sl d 101 203 [l0, l1, l2] [.int 6, s0] H r := q_bipush (mo_101 201 rfl) rfl rfl
theorem r101_203 : Runs xs sl d 101 203 [l0, l1, l2] [.int u1, .int u0] H r ↔ if u1 ≤ u0 then Runs xs sl d 101 210 [l0, l1, l2] [] H r else Runs xs sl d 101 206 [l0, l1, l2] [] H r := q_icmp_ge (mo_101 203 rfl) rfl rfl
theorem r101_206 : Runs xs sl d 101 206 [l0, l1, l2] [] H r ↔ Runs xs sl d 101 207 [l0, l1, l2] [.int 1] H r := q_iconst (mo_101 206 rfl) rfl rfl
theorem r101_207 : Runs xs sl d 101 207 [l0, l1, l2] [s0] H r ↔ Runs xs sl d 101 211 [l0, l1, l2] [s0] H r := q_goto (mo_101 207 rfl) rfl
theorem r101_210 : Runs xs sl d 101 210 [l0, l1, l2] [] H r ↔ Runs xs sl d 101 211 [l0, l1, l2] [.int 0] H r := q_iconst (mo_101 210 rfl) rfl rfl
theorem r101_211 (h : u0 = 0 ∨ u0 = 1) : Runs xs sl d 101 211 [l0, l1, l2] [.int u0] H r ↔ r = (some (.int u0), H) := q_zret (mo_101 211 rfl) mrt_101 h
theorem r101_212 : Runs xs sl d 101 212 [l0, l1, some (.int i2)] [] H r ↔ Runs xs sl d 101 213 [l0, l1, some (.int i2)] [.int i2] H r := q_iload_n (mo_101 212 rfl) rfl rfl
theorem r101_213 : Runs xs sl d 101 213 [l0, l1, l2] [s0] H r ↔ Runs xs sl d 101 214 [l0, l1, l2] [.int 4, s0] H r := q_iconst (mo_101 213 rfl) rfl rfl
theorem r101_214 : Runs xs sl d 101 214 [l0, l1, l2] [.int u1, .int u0] H r ↔ if u1 ≤ u0 then Runs xs sl d 101 221 [l0, l1, l2] [] H r else Runs xs sl d 101 217 [l0, l1, l2] [] H r := q_icmp_ge (mo_101 214 rfl) rfl rfl
theorem r101_217 : Runs xs sl d 101 217 [l0, l1, l2] [] H r ↔ Runs xs sl d 101 218 [l0, l1, l2] [.int 1] H r := q_iconst (mo_101 217 rfl) rfl rfl
theorem r101_218 : Runs xs sl d 101 218 [l0, l1, l2] [s0] H r ↔ Runs xs sl d 101 222 [l0, l1, l2] [s0] H r := q_goto (mo_101 218 rfl) rfl
theorem r101_221 : Runs xs sl d 101 221 [l0, l1, l2] [] H r ↔ Runs xs sl d 101 222 [l0, l1, l2] [.int 0] H r := q_iconst (mo_101 221 rfl) rfl rfl
theorem r101_222 (h : u0 = 0 ∨ u0 = 1) : Runs xs sl d 101 222 [l0, l1, l2] [.int u0] H r ↔ r = (some (.int u0), H) := q_zret (mo_101 222 rfl) mrt_101 h
theorem r101_223 : Runs xs sl d 101 223 [l0, l1, some (.int i2)] [] H r ↔ Runs xs sl d 101 224 [l0, l1, some (.int i2)] [.int i2] H r := q_iload_n (mo_101 223 rfl) rfl rfl
theorem r101_224 : Runs xs sl d 101 224 [l0, l1, l2] [s0] H r ↔ Runs xs sl d 101 226 [l0, l1, l2] [.int 16, s0] H r := q_bipush (mo_101 224 rfl) rfl rfl
theorem r101_226 : Runs xs sl d 101 226 [l0, l1, l2] [.int u1, .int u0] H r ↔ if u1 ≤ u0 then Runs xs sl d 101 233 [l0, l1, l2] [] H r else Runs xs sl d 101 229 [l0, l1, l2] [] H r := q_icmp_ge (mo_101 226 rfl) rfl rfl
theorem r101_229 : Runs xs sl d 101 229 [l0, l1, l2] [] H r ↔ Runs xs sl d 101 230 [l0, l1, l2] [.int 1] H r := q_iconst (mo_101 229 rfl) rfl rfl
theorem r101_230 : Runs xs sl d 101 230 [l0, l1, l2] [s0] H r ↔ Runs xs sl d 101 234 [l0, l1, l2] [s0] H r := q_goto (mo_101 230 rfl) rfl
theorem r101_233 : Runs xs sl d 101 233 [l0, l1, l2] [] H r ↔ Runs xs sl d 101 234 [l0, l1, l2] [.int 0] H r := q_iconst (mo_101 233 rfl) rfl rfl
theorem r101_234 (h : u0 = 0 ∨ u0 = 1) : Runs xs sl d 101 234 [l0, l1, l2] [.int u0] H r ↔ r = (some (.int u0), H) := q_zret (mo_101 234 rfl) mrt_101 h
theorem r101_235 : Runs xs sl d 101 235 [l0, l1, some (.int i2)] [] H r ↔ Runs xs sl d 101 236 [l0, l1, some (.int i2)] [.int i2] H r := q_iload_n (mo_101 235 rfl) rfl rfl
theorem r101_236 : Runs xs sl d 101 236 [l0, l1, l2] [s0] H r ↔ Runs xs sl d 101 237 [l0, l1, l2] [.int 3, s0] H r := q_iconst (mo_101 236 rfl) rfl rfl
theorem r101_237 : Runs xs sl d 101 237 [l0, l1, l2] [.int u1, .int u0] H r ↔ if u1 < u0 then Runs xs sl d 101 244 [l0, l1, l2] [] H r else Runs xs sl d 101 240 [l0, l1, l2] [] H r := q_icmp_gt (mo_101 237 rfl) rfl rfl
theorem r101_240 : Runs xs sl d 101 240 [l0, l1, l2] [] H r ↔ Runs xs sl d 101 241 [l0, l1, l2] [.int 1] H r := q_iconst (mo_101 240 rfl) rfl rfl
theorem r101_241 : Runs xs sl d 101 241 [l0, l1, l2] [s0] H r ↔ Runs xs sl d 101 245 [l0, l1, l2] [s0] H r := q_goto (mo_101 241 rfl) rfl
theorem r101_244 : Runs xs sl d 101 244 [l0, l1, l2] [] H r ↔ Runs xs sl d 101 245 [l0, l1, l2] [.int 0] H r := q_iconst (mo_101 244 rfl) rfl rfl
theorem r101_245 (h : u0 = 0 ∨ u0 = 1) : Runs xs sl d 101 245 [l0, l1, l2] [.int u0] H r ↔ r = (some (.int u0), H) := q_zret (mo_101 245 rfl) mrt_101 h
theorem r102_0 : Runs xs sl d 102 0 [l0, some (.int i1)] [] H r ↔ Runs xs sl d 102 1 [l0, some (.int i1)] [.int i1] H r := q_iload_n (mo_102 0 rfl) rfl rfl
theorem r102_1_c11 : Runs xs sl d 102 1 [l0, l1] [.int 11] H r ↔ Runs xs sl d 102 52 [l0, l1] [] H r := q_tsw (off := 51) (mo_102 1 rfl) rfl rfl
theorem r102_1_c12 : Runs xs sl d 102 1 [l0, l1] [.int 12] H r ↔ Runs xs sl d 102 59 [l0, l1] [] H r := q_tsw (off := 58) (mo_102 1 rfl) rfl rfl
theorem r102_1_c13 : Runs xs sl d 102 1 [l0, l1] [.int 13] H r ↔ Runs xs sl d 102 91 [l0, l1] [] H r := q_tsw (off := 90) (mo_102 1 rfl) rfl rfl
theorem r102_1_c14 : Runs xs sl d 102 1 [l0, l1] [.int 14] H r ↔ Runs xs sl d 102 98 [l0, l1] [] H r := q_tsw (off := 97) (mo_102 1 rfl) rfl rfl
theorem r102_1_c15 : Runs xs sl d 102 1 [l0, l1] [.int 15] H r ↔ Runs xs sl d 102 105 [l0, l1] [] H r := q_tsw (off := 104) (mo_102 1 rfl) rfl rfl
theorem r102_1_c16 : Runs xs sl d 102 1 [l0, l1] [.int 16] H r ↔ Runs xs sl d 102 112 [l0, l1] [] H r := q_tsw (off := 111) (mo_102 1 rfl) rfl rfl
theorem r102_1_c17 : Runs xs sl d 102 1 [l0, l1] [.int 17] H r ↔ Runs xs sl d 102 119 [l0, l1] [] H r := q_tsw (off := 118) (mo_102 1 rfl) rfl rfl
theorem r102_1_c18 : Runs xs sl d 102 1 [l0, l1] [.int 18] H r ↔ Runs xs sl d 102 75 [l0, l1] [] H r := q_tsw (off := 74) (mo_102 1 rfl) rfl rfl
theorem r102_1_c19 : Runs xs sl d 102 1 [l0, l1] [.int 19] H r ↔ Runs xs sl d 102 126 [l0, l1] [] H r := q_tsw (off := 125) (mo_102 1 rfl) rfl rfl
theorem r102_1_d (h : u0.toInt < 11 ∨ 19 < u0.toInt) : Runs xs sl d 102 1 [l0, l1] [.int u0] H r ↔ Runs xs sl d 102 133 [l0, l1] [] H r := q_tswD (mo_102 1 rfl) rfl h
theorem r102_52 : Runs xs sl d 102 52 [some (.ref a0), l1] [] H r ↔ Runs xs sl d 102 53 [some (.ref a0), l1] [.ref a0] H r := q_aload_n (mo_102 52 rfl) rfl rfl
theorem r102_53 (hc : hC H b0 = some 5) : Runs xs sl (d + 1) 102 53 [l0, l1] [.ref b0] H r ↔ ∃ v H1, Runs xs sl d 103 0 [some (.ref b0)] [] H (v, H1) ∧ Runs xs sl (d + 1) 102 56 [l0, l1] (v.toList ++ []) H1 r := q_callV (M' := 103) (as := []) (rest := []) (mo_102 53 rfl) mow_102 rfl mcs_103 mmx_103 rfl (Nat.le_of_ble_eq_true rfl) (Nat.le_of_ble_eq_true rfl) rfl rfl hc
theorem r102_56 : Runs xs sl d 102 56 [l0, l1] [] H r ↔ Runs xs sl d 102 138 [l0, l1] [] H r := q_goto (mo_102 56 rfl) rfl
theorem r102_59 : Runs xs sl d 102 59 [some (.ref a0), l1] [] H r ↔ Runs xs sl d 102 60 [some (.ref a0), l1] [.ref a0] H r := q_aload_n (mo_102 59 rfl) rfl rfl
theorem r102_60 : Runs xs sl d 102 60 [l0, l1] [.ref b0] H r ↔ ∃ v, hO H b0 5 0 = some v ∧ Runs xs sl d 102 63 [l0, l1] [v] H r := q_getf (mo_102 60 rfl) mow_102 rfl rfl
theorem r102_63 : Runs xs sl d 102 63 [some (.ref a0), l1] [s0] H r ↔ Runs xs sl d 102 64 [some (.ref a0), l1] [.ref a0, s0] H r := q_aload_n (mo_102 63 rfl) rfl rfl
theorem r102_64 : Runs xs sl d 102 64 [l0, l1] [.ref b1, s0] H r ↔ ∃ v, hO H b1 5 5 = some v ∧ Runs xs sl d 102 67 [l0, l1] [v, s0] H r := q_getf (mo_102 64 rfl) mow_102 rfl rfl
theorem r102_67 : Runs xs sl d 102 67 [l0, l1] [s1, s0] H r ↔ Runs xs sl d 102 68 [l0, l1] [.int 0, s1, s0] H r := q_iconst (mo_102 67 rfl) rfl rfl
theorem r102_68 : Runs xs sl d 102 68 [l0, l1] [.int u2, .ref b1, s0] H r ↔ ∃ v, hA H b1 0 u2 = some v ∧ Runs xs sl d 102 69 [l0, l1] [.int v, s0] H r := run_iald (mo_102 68 rfl) rfl
theorem r102_69 : Runs xs sl d 102 69 [l0, l1] [.int u1, .ref b0] H r ↔ ∃ H1, hOw H b0 8 1 (.int u1) = some H1 ∧ Runs xs sl d 102 72 [l0, l1] [] H1 r := q_putf (mo_102 69 rfl) mow_102 rfl rfl (by decide +kernel) rfl
theorem r102_72 : Runs xs sl d 102 72 [l0, l1] [] H r ↔ Runs xs sl d 102 138 [l0, l1] [] H r := q_goto (mo_102 72 rfl) rfl
theorem r102_75 : Runs xs sl d 102 75 [some (.ref a0), l1] [] H r ↔ Runs xs sl d 102 76 [some (.ref a0), l1] [.ref a0] H r := q_aload_n (mo_102 75 rfl) rfl rfl
theorem r102_76 : Runs xs sl d 102 76 [l0, l1] [.ref b0] H r ↔ ∃ v, hO H b0 5 2 = some v ∧ Runs xs sl d 102 79 [l0, l1] [v] H r := q_getf (mo_102 76 rfl) mow_102 rfl rfl
theorem r102_79 : Runs xs sl d 102 79 [some (.ref a0), l1] [s0] H r ↔ Runs xs sl d 102 80 [some (.ref a0), l1] [.ref a0, s0] H r := q_aload_n (mo_102 79 rfl) rfl rfl
theorem r102_80 : Runs xs sl d 102 80 [l0, l1] [.ref b1, s0] H r ↔ ∃ v, hO H b1 5 5 = some v ∧ Runs xs sl d 102 83 [l0, l1] [v, s0] H r := q_getf (mo_102 80 rfl) mow_102 rfl rfl
theorem r102_83 : Runs xs sl d 102 83 [l0, l1] [s1, s0] H r ↔ Runs xs sl d 102 84 [l0, l1] [.int 0, s1, s0] H r := q_iconst (mo_102 83 rfl) rfl rfl
theorem r102_84 : Runs xs sl d 102 84 [l0, l1] [.int u2, .ref b1, s0] H r ↔ ∃ v, hA H b1 0 u2 = some v ∧ Runs xs sl d 102 85 [l0, l1] [.int v, s0] H r := run_iald (mo_102 84 rfl) rfl
theorem r102_85 : Runs xs sl d 102 85 [l0, l1] [.int u1, .ref b0] H r ↔ ∃ H1, hOw H b0 4 1 (.int u1) = some H1 ∧ Runs xs sl d 102 88 [l0, l1] [] H1 r := q_putf (mo_102 85 rfl) mow_102 rfl rfl (by decide +kernel) rfl
theorem r102_88 : Runs xs sl d 102 88 [l0, l1] [] H r ↔ Runs xs sl d 102 138 [l0, l1] [] H r := q_goto (mo_102 88 rfl) rfl
theorem r102_91 : Runs xs sl d 102 91 [some (.ref a0), l1] [] H r ↔ Runs xs sl d 102 92 [some (.ref a0), l1] [.ref a0] H r := q_aload_n (mo_102 91 rfl) rfl rfl
theorem r102_92 (hc : hC H b0 = some 5) : Runs xs sl (d + 1) 102 92 [l0, l1] [.ref b0] H r ↔ ∃ v H1, Runs xs sl d 104 0 [some (.ref b0)] [] H (v, H1) ∧ Runs xs sl (d + 1) 102 95 [l0, l1] (v.toList ++ []) H1 r := q_callV (M' := 104) (as := []) (rest := []) (mo_102 92 rfl) mow_102 rfl mcs_104 mmx_104 rfl (Nat.le_of_ble_eq_true rfl) (Nat.le_of_ble_eq_true rfl) rfl rfl hc
theorem r102_95 : Runs xs sl d 102 95 [l0, l1] [] H r ↔ Runs xs sl d 102 138 [l0, l1] [] H r := q_goto (mo_102 95 rfl) rfl
theorem r102_98 : Runs xs sl d 102 98 [some (.ref a0), l1] [] H r ↔ Runs xs sl d 102 99 [some (.ref a0), l1] [.ref a0] H r := q_aload_n (mo_102 98 rfl) rfl rfl
theorem r102_99 (hc : hC H b0 = some 5) : Runs xs sl (d + 1) 102 99 [l0, l1] [.ref b0] H r ↔ ∃ v H1, Runs xs sl d 105 0 [some (.ref b0)] [] H (v, H1) ∧ Runs xs sl (d + 1) 102 102 [l0, l1] (v.toList ++ []) H1 r := q_callV (M' := 105) (as := []) (rest := []) (mo_102 99 rfl) mow_102 rfl mcs_105 mmx_105 rfl (Nat.le_of_ble_eq_true rfl) (Nat.le_of_ble_eq_true rfl) rfl rfl hc
theorem r102_102 : Runs xs sl d 102 102 [l0, l1] [] H r ↔ Runs xs sl d 102 138 [l0, l1] [] H r := q_goto (mo_102 102 rfl) rfl
theorem r102_105 : Runs xs sl d 102 105 [some (.ref a0), l1] [] H r ↔ Runs xs sl d 102 106 [some (.ref a0), l1] [.ref a0] H r := q_aload_n (mo_102 105 rfl) rfl rfl
theorem r102_106 (hc : hC H b0 = some 5) : Runs xs sl (d + 1) 102 106 [l0, l1] [.ref b0] H r ↔ ∃ v H1, Runs xs sl d 107 0 [some (.ref b0)] [] H (v, H1) ∧ Runs xs sl (d + 1) 102 109 [l0, l1] (v.toList ++ []) H1 r := q_callV (M' := 107) (as := []) (rest := []) (mo_102 106 rfl) mow_102 rfl mcs_107 mmx_107 rfl (Nat.le_of_ble_eq_true rfl) (Nat.le_of_ble_eq_true rfl) rfl rfl hc
theorem r102_109 : Runs xs sl d 102 109 [l0, l1] [] H r ↔ Runs xs sl d 102 138 [l0, l1] [] H r := q_goto (mo_102 109 rfl) rfl
theorem r102_112 : Runs xs sl d 102 112 [some (.ref a0), l1] [] H r ↔ Runs xs sl d 102 113 [some (.ref a0), l1] [.ref a0] H r := q_aload_n (mo_102 112 rfl) rfl rfl
theorem r102_113 (hc : hC H b0 = some 5) : Runs xs sl (d + 1) 102 113 [l0, l1] [.ref b0] H r ↔ ∃ v H1, Runs xs sl d 110 0 [some (.ref b0), none] [] H (v, H1) ∧ Runs xs sl (d + 1) 102 116 [l0, l1] (v.toList ++ []) H1 r := q_callV (M' := 110) (as := []) (rest := []) (mo_102 113 rfl) mow_102 rfl mcs_110 mmx_110 rfl (Nat.le_of_ble_eq_true rfl) (Nat.le_of_ble_eq_true rfl) rfl rfl hc
theorem r102_116 : Runs xs sl d 102 116 [l0, l1] [] H r ↔ Runs xs sl d 102 138 [l0, l1] [] H r := q_goto (mo_102 116 rfl) rfl
theorem r102_119 : Runs xs sl d 102 119 [some (.ref a0), l1] [] H r ↔ Runs xs sl d 102 120 [some (.ref a0), l1] [.ref a0] H r := q_aload_n (mo_102 119 rfl) rfl rfl
theorem r102_120 (hc : hC H b0 = some 5) : Runs xs sl (d + 1) 102 120 [l0, l1] [.ref b0] H r ↔ ∃ v H1, Runs xs sl d 111 0 [some (.ref b0)] [] H (v, H1) ∧ Runs xs sl (d + 1) 102 123 [l0, l1] (v.toList ++ []) H1 r := q_callV (M' := 111) (as := []) (rest := []) (mo_102 120 rfl) mow_102 rfl mcs_111 mmx_111 rfl (Nat.le_of_ble_eq_true rfl) (Nat.le_of_ble_eq_true rfl) rfl rfl hc
theorem r102_123 : Runs xs sl d 102 123 [l0, l1] [] H r ↔ Runs xs sl d 102 138 [l0, l1] [] H r := q_goto (mo_102 123 rfl) rfl
theorem r102_126 : Runs xs sl d 102 126 [some (.ref a0), l1] [] H r ↔ Runs xs sl d 102 127 [some (.ref a0), l1] [.ref a0] H r := q_aload_n (mo_102 126 rfl) rfl rfl
theorem r102_127 (hc : hC H b0 = some 5) : Runs xs sl (d + 1) 102 127 [l0, l1] [.ref b0] H r ↔ ∃ v H1, Runs xs sl d 112 0 [some (.ref b0), none] [] H (v, H1) ∧ Runs xs sl (d + 1) 102 130 [l0, l1] (v.toList ++ []) H1 r := q_callV (M' := 112) (as := []) (rest := []) (mo_102 127 rfl) mow_102 rfl mcs_112 mmx_112 rfl (Nat.le_of_ble_eq_true rfl) (Nat.le_of_ble_eq_true rfl) rfl rfl hc
theorem r102_130 : Runs xs sl d 102 130 [l0, l1] [] H r ↔ Runs xs sl d 102 138 [l0, l1] [] H r := q_goto (mo_102 130 rfl) rfl
theorem r102_133 : Runs xs sl d 102 133 [some (.ref a0), l1] [] H r ↔ Runs xs sl d 102 134 [some (.ref a0), l1] [.ref a0] H r := q_aload_n (mo_102 133 rfl) rfl rfl
theorem r102_134 : Runs xs sl d 102 134 [l0, some (.int i1)] [s0] H r ↔ Runs xs sl d 102 135 [l0, some (.int i1)] [.int i1, s0] H r := q_iload_n (mo_102 134 rfl) rfl rfl
theorem r102_135 (hc : hC H b0 = some 5) : Runs xs sl (d + 1) 102 135 [l0, l1] [.int u1, .ref b0] H r ↔ ∃ v H1, Runs xs sl d 113 0 [some (.ref b0), some (.int u1), none, none] [] H (v, H1) ∧ Runs xs sl (d + 1) 102 138 [l0, l1] (v.toList ++ []) H1 r := q_callV (M' := 113) (as := [.int u1]) (rest := []) (mo_102 135 rfl) mow_102 rfl mcs_113 mmx_113 rfl (Nat.le_of_ble_eq_true rfl) (Nat.le_of_ble_eq_true rfl) rfl rfl hc
theorem r102_138 : Runs xs sl d 102 138 [l0, l1] [] H r ↔ r = (none, H) := q_ret (mo_102 138 rfl) mrt_102
theorem r103_0 : Runs xs sl d 103 0 [some (.ref a0)] [] H r ↔ Runs xs sl d 103 1 [some (.ref a0)] [.ref a0] H r := q_aload_n (mo_103 0 rfl) rfl rfl
theorem r103_1 : Runs xs sl d 103 1 [l0] [.ref b0] H r ↔ ∃ v, hO H b0 5 8 = some v ∧ Runs xs sl d 103 4 [l0] [v] H r := q_getf (mo_103 1 rfl) mow_103 rfl rfl
theorem r103_4 : Runs xs sl d 103 4 [l0] [.int u0] H r ↔ if ¬ u0 = 0 then Runs xs sl d 103 23 [l0] [] H r else Runs xs sl d 103 7 [l0] [] H r := q_if_ne (mo_103 4 rfl) rfl rfl
theorem r103_7 : Runs xs sl d 103 7 [some (.ref a0)] [] H r ↔ Runs xs sl d 103 8 [some (.ref a0)] [.ref a0] H r := q_aload_n (mo_103 7 rfl) rfl rfl
theorem r103_8 : Runs xs sl d 103 8 [l0] [.ref b0] H r ↔ ∃ v, hO H b0 5 0 = some v ∧ Runs xs sl d 103 11 [l0] [v] H r := q_getf (mo_103 8 rfl) mow_103 rfl rfl
theorem r103_11 : Runs xs sl d 103 11 [some (.ref a0)] [s0] H r ↔ Runs xs sl d 103 12 [some (.ref a0)] [.ref a0, s0] H r := q_aload_n (mo_103 11 rfl) rfl rfl
theorem r103_12 : Runs xs sl d 103 12 [l0] [.ref b1, s0] H r ↔ ∃ v, hO H b1 5 5 = some v ∧ Runs xs sl d 103 15 [l0] [v, s0] H r := q_getf (mo_103 12 rfl) mow_103 rfl rfl
theorem r103_15 : Runs xs sl d 103 15 [l0] [s1, s0] H r ↔ Runs xs sl d 103 16 [l0] [.int 0, s1, s0] H r := q_iconst (mo_103 15 rfl) rfl rfl
theorem r103_16 : Runs xs sl d 103 16 [l0] [.int u2, .ref b1, s0] H r ↔ ∃ v, hA H b1 0 u2 = some v ∧ Runs xs sl d 103 17 [l0] [.int v, s0] H r := run_iald (mo_103 16 rfl) rfl
theorem r103_17 : Runs xs sl d 103 17 [l0] [.int u1, .ref b0] H r ↔ ∃ H1, hOw H b0 8 0 (.int u1) = some H1 ∧ Runs xs sl d 103 20 [l0] [] H1 r := q_putf (mo_103 17 rfl) mow_103 rfl rfl (by decide +kernel) rfl
theorem r103_20 : Runs xs sl d 103 20 [l0] [] H r ↔ Runs xs sl d 103 36 [l0] [] H r := q_goto (mo_103 20 rfl) rfl
theorem r103_23 : Runs xs sl d 103 23 [some (.ref a0)] [] H r ↔ Runs xs sl d 103 24 [some (.ref a0)] [.ref a0] H r := q_aload_n (mo_103 23 rfl) rfl rfl
theorem r103_24 : Runs xs sl d 103 24 [l0] [.ref b0] H r ↔ ∃ v, hO H b0 5 2 = some v ∧ Runs xs sl d 103 27 [l0] [v] H r := q_getf (mo_103 24 rfl) mow_103 rfl rfl
theorem r103_27 : Runs xs sl d 103 27 [some (.ref a0)] [s0] H r ↔ Runs xs sl d 103 28 [some (.ref a0)] [.ref a0, s0] H r := q_aload_n (mo_103 27 rfl) rfl rfl
theorem r103_28 : Runs xs sl d 103 28 [l0] [.ref b1, s0] H r ↔ ∃ v, hO H b1 5 5 = some v ∧ Runs xs sl d 103 31 [l0] [v, s0] H r := q_getf (mo_103 28 rfl) mow_103 rfl rfl
theorem r103_31 : Runs xs sl d 103 31 [l0] [s1, s0] H r ↔ Runs xs sl d 103 32 [l0] [.int 0, s1, s0] H r := q_iconst (mo_103 31 rfl) rfl rfl
theorem r103_32 : Runs xs sl d 103 32 [l0] [.int u2, .ref b1, s0] H r ↔ ∃ v, hA H b1 0 u2 = some v ∧ Runs xs sl d 103 33 [l0] [.int v, s0] H r := run_iald (mo_103 32 rfl) rfl
theorem r103_33 : Runs xs sl d 103 33 [l0] [.int u1, .ref b0] H r ↔ ∃ H1, hOw H b0 4 0 (.int u1) = some H1 ∧ Runs xs sl d 103 36 [l0] [] H1 r := q_putf (mo_103 33 rfl) mow_103 rfl rfl (by decide +kernel) rfl
theorem r103_36 : Runs xs sl d 103 36 [l0] [] H r ↔ r = (none, H) := q_ret (mo_103 36 rfl) mrt_103
theorem r104_0 : Runs xs sl d 104 0 [some (.ref a0)] [] H r ↔ Runs xs sl d 104 1 [some (.ref a0)] [.ref a0] H r := q_aload_n (mo_104 0 rfl) rfl rfl
theorem r104_1 : Runs xs sl d 104 1 [l0] [.ref b0] H r ↔ ∃ v, hO H b0 5 0 = some v ∧ Runs xs sl d 104 4 [l0] [v] H r := q_getf (mo_104 1 rfl) mow_104 rfl rfl
theorem r104_4 : Runs xs sl d 104 4 [l0] [.ref b0] H r ↔ ∃ v, hO H b0 8 2 = some v ∧ Runs xs sl d 104 7 [l0] [v] H r := q_getf (mo_104 4 rfl) mow_104 rfl rfl
theorem r104_7 : Runs xs sl d 104 7 [l0] [s0] H r ↔ Runs xs sl d 104 9 [l0] [.int 8, s0] H r := q_bipush (mo_104 7 rfl) rfl rfl
theorem r104_9 : Runs xs sl d 104 9 [l0] [.int u1, .int u0] H r ↔ if u1 ≤ u0 then Runs xs sl d 104 67 [l0] [] H r else Runs xs sl d 104 12 [l0] [] H r := q_icmp_ge (mo_104 9 rfl) rfl rfl
theorem r104_12 : Runs xs sl d 104 12 [some (.ref a0)] [] H r ↔ Runs xs sl d 104 13 [some (.ref a0)] [.ref a0] H r := q_aload_n (mo_104 12 rfl) rfl rfl
theorem r104_13 : Runs xs sl d 104 13 [l0] [.ref b0] H r ↔ ∃ v, hO H b0 5 0 = some v ∧ Runs xs sl d 104 16 [l0] [v] H r := q_getf (mo_104 13 rfl) mow_104 rfl rfl
theorem r104_16 : Runs xs sl d 104 16 [l0] [.ref b0] H r ↔ ∃ v, hO H b0 8 5 = some v ∧ Runs xs sl d 104 19 [l0] [v] H r := q_getf (mo_104 16 rfl) mow_104 rfl rfl
theorem r104_19 : Runs xs sl d 104 19 [some (.ref a0)] [s0] H r ↔ Runs xs sl d 104 20 [some (.ref a0)] [.ref a0, s0] H r := q_aload_n (mo_104 19 rfl) rfl rfl
theorem r104_20 : Runs xs sl d 104 20 [l0] [.ref b1, s0] H r ↔ ∃ v, hO H b1 5 0 = some v ∧ Runs xs sl d 104 23 [l0] [v, s0] H r := q_getf (mo_104 20 rfl) mow_104 rfl rfl
theorem r104_23 : Runs xs sl d 104 23 [l0] [.ref b1, s0] H r ↔ ∃ v, hO H b1 8 2 = some v ∧ Runs xs sl d 104 26 [l0] [v, s0] H r := q_getf (mo_104 23 rfl) mow_104 rfl rfl
theorem r104_26 : Runs xs sl d 104 26 [some (.ref a0)] [s1, s0] H r ↔ Runs xs sl d 104 27 [some (.ref a0)] [.ref a0, s1, s0] H r := q_aload_n (mo_104 26 rfl) rfl rfl
theorem r104_27 : Runs xs sl d 104 27 [l0] [.ref b2, s1, s0] H r ↔ ∃ v, hO H b2 5 5 = some v ∧ Runs xs sl d 104 30 [l0] [v, s1, s0] H r := q_getf (mo_104 27 rfl) mow_104 rfl rfl
theorem r104_30 : Runs xs sl d 104 30 [l0] [s2, s1, s0] H r ↔ Runs xs sl d 104 31 [l0] [.int 0, s2, s1, s0] H r := q_iconst (mo_104 30 rfl) rfl rfl
theorem r104_31 : Runs xs sl d 104 31 [l0] [.int u3, .ref b2, s1, s0] H r ↔ ∃ v, hA H b2 0 u3 = some v ∧ Runs xs sl d 104 32 [l0] [.int v, s1, s0] H r := run_iald (mo_104 31 rfl) rfl
theorem r104_32 : Runs xs sl d 104 32 [l0] [.int u2, .int u1, .ref b0] H r ↔ ∃ H1, hAw H b0 0 u1 u2 = some H1 ∧ Runs xs sl d 104 33 [l0] [] H1 r := run_iast (mo_104 32 rfl) rfl
theorem r104_33 : Runs xs sl d 104 33 [some (.ref a0)] [] H r ↔ Runs xs sl d 104 34 [some (.ref a0)] [.ref a0] H r := q_aload_n (mo_104 33 rfl) rfl rfl
theorem r104_34 : Runs xs sl d 104 34 [l0] [.ref b0] H r ↔ ∃ v, hO H b0 5 0 = some v ∧ Runs xs sl d 104 37 [l0] [v] H r := q_getf (mo_104 34 rfl) mow_104 rfl rfl
theorem r104_37 : Runs xs sl d 104 37 [l0] [.ref b0] H r ↔ ∃ v, hO H b0 8 6 = some v ∧ Runs xs sl d 104 40 [l0] [v] H r := q_getf (mo_104 37 rfl) mow_104 rfl rfl
theorem r104_40 : Runs xs sl d 104 40 [some (.ref a0)] [s0] H r ↔ Runs xs sl d 104 41 [some (.ref a0)] [.ref a0, s0] H r := q_aload_n (mo_104 40 rfl) rfl rfl
theorem r104_41 : Runs xs sl d 104 41 [l0] [.ref b1, s0] H r ↔ ∃ v, hO H b1 5 0 = some v ∧ Runs xs sl d 104 44 [l0] [v, s0] H r := q_getf (mo_104 41 rfl) mow_104 rfl rfl
theorem r104_44 : Runs xs sl d 104 44 [l0] [.ref b1, s0] H r ↔ ∃ v, hO H b1 8 2 = some v ∧ Runs xs sl d 104 47 [l0] [v, s0] H r := q_getf (mo_104 44 rfl) mow_104 rfl rfl
theorem r104_47 : Runs xs sl d 104 47 [some (.ref a0)] [s1, s0] H r ↔ Runs xs sl d 104 48 [some (.ref a0)] [.ref a0, s1, s0] H r := q_aload_n (mo_104 47 rfl) rfl rfl
theorem r104_48 : Runs xs sl d 104 48 [l0] [.ref b2, s1, s0] H r ↔ ∃ v, hO H b2 5 5 = some v ∧ Runs xs sl d 104 51 [l0] [v, s1, s0] H r := q_getf (mo_104 48 rfl) mow_104 rfl rfl
theorem r104_51 : Runs xs sl d 104 51 [l0] [s2, s1, s0] H r ↔ Runs xs sl d 104 52 [l0] [.int 1, s2, s1, s0] H r := q_iconst (mo_104 51 rfl) rfl rfl
theorem r104_52 : Runs xs sl d 104 52 [l0] [.int u3, .ref b2, s1, s0] H r ↔ ∃ v, hA H b2 0 u3 = some v ∧ Runs xs sl d 104 53 [l0] [.int v, s1, s0] H r := run_iald (mo_104 52 rfl) rfl
theorem r104_53 : Runs xs sl d 104 53 [l0] [.int u2, .int u1, .ref b0] H r ↔ ∃ H1, hAw H b0 0 u1 u2 = some H1 ∧ Runs xs sl d 104 54 [l0] [] H1 r := run_iast (mo_104 53 rfl) rfl
theorem r104_54 : Runs xs sl d 104 54 [some (.ref a0)] [] H r ↔ Runs xs sl d 104 55 [some (.ref a0)] [.ref a0] H r := q_aload_n (mo_104 54 rfl) rfl rfl
theorem r104_55 : Runs xs sl d 104 55 [l0] [.ref b0] H r ↔ ∃ v, hO H b0 5 0 = some v ∧ Runs xs sl d 104 58 [l0] [v] H r := q_getf (mo_104 55 rfl) mow_104 rfl rfl
theorem r104_58 : Runs xs sl d 104 58 [l0] [.ref b0] H r ↔ Runs xs sl d 104 59 [l0] [.ref b0, .ref b0] H r := q_dup (mo_104 58 rfl) rfl rfl
theorem r104_59 : Runs xs sl d 104 59 [l0] [.ref b1, s0] H r ↔ ∃ v, hO H b1 8 2 = some v ∧ Runs xs sl d 104 62 [l0] [v, s0] H r := q_getf (mo_104 59 rfl) mow_104 rfl rfl
theorem r104_62 : Runs xs sl d 104 62 [l0] [s1, s0] H r ↔ Runs xs sl d 104 63 [l0] [.int 1, s1, s0] H r := q_iconst (mo_104 62 rfl) rfl rfl
theorem r104_63 : Runs xs sl d 104 63 [l0] [.int u2, .int u1, s0] H r ↔ Runs xs sl d 104 64 [l0] [.int (u1 + u2), s0] H r := q_iadd (mo_104 63 rfl) rfl
theorem r104_64 : Runs xs sl d 104 64 [l0] [.int u1, .ref b0] H r ↔ ∃ H1, hOw H b0 8 2 (.int u1) = some H1 ∧ Runs xs sl d 104 67 [l0] [] H1 r := q_putf (mo_104 64 rfl) mow_104 rfl rfl (by decide +kernel) rfl
theorem r104_67 : Runs xs sl d 104 67 [l0] [] H r ↔ r = (none, H) := q_ret (mo_104 67 rfl) mrt_104
theorem r105_0 : Runs xs sl d 105 0 [some (.ref a0)] [] H r ↔ Runs xs sl d 105 1 [some (.ref a0)] [.ref a0] H r := q_aload_n (mo_105 0 rfl) rfl rfl
theorem r105_1 : Runs xs sl d 105 1 [some (.ref a0)] [s0] H r ↔ Runs xs sl d 105 2 [some (.ref a0)] [.ref a0, s0] H r := q_aload_n (mo_105 1 rfl) rfl rfl
theorem r105_2 : Runs xs sl d 105 2 [l0] [.ref b1, s0] H r ↔ ∃ v, hO H b1 5 5 = some v ∧ Runs xs sl d 105 5 [l0] [v, s0] H r := q_getf (mo_105 2 rfl) mow_105 rfl rfl
theorem r105_5 : Runs xs sl d 105 5 [l0] [s1, s0] H r ↔ Runs xs sl d 105 6 [l0] [.int 0, s1, s0] H r := q_iconst (mo_105 5 rfl) rfl rfl
theorem r105_6 : Runs xs sl d 105 6 [l0] [.int u2, .ref b1, s0] H r ↔ ∃ v, hA H b1 0 u2 = some v ∧ Runs xs sl d 105 7 [l0] [.int v, s0] H r := run_iald (mo_105 6 rfl) rfl
theorem r105_7 (hc : hC H b0 = some 5) : Runs xs sl (d + 1) 105 7 [l0] [.int u1, .ref b0] H r ↔ ∃ v H1, Runs xs sl d 106 0 [some (.ref b0), some (.int u1)] [] H (v, H1) ∧ Runs xs sl (d + 1) 105 10 [l0] (v.toList ++ []) H1 r := q_callV (M' := 106) (as := [.int u1]) (rest := []) (mo_105 7 rfl) mow_105 rfl mcs_106 mmx_106 rfl (Nat.le_of_ble_eq_true rfl) (Nat.le_of_ble_eq_true rfl) rfl rfl hc
theorem r105_10 : Runs xs sl d 105 10 [some (.ref a0)] [] H r ↔ Runs xs sl d 105 11 [some (.ref a0)] [.ref a0] H r := q_aload_n (mo_105 10 rfl) rfl rfl
theorem r105_11 : Runs xs sl d 105 11 [some (.ref a0)] [s0] H r ↔ Runs xs sl d 105 12 [some (.ref a0)] [.ref a0, s0] H r := q_aload_n (mo_105 11 rfl) rfl rfl
theorem r105_12 : Runs xs sl d 105 12 [l0] [.ref b1, s0] H r ↔ ∃ v, hO H b1 5 5 = some v ∧ Runs xs sl d 105 15 [l0] [v, s0] H r := q_getf (mo_105 12 rfl) mow_105 rfl rfl
theorem r105_15 : Runs xs sl d 105 15 [l0] [s1, s0] H r ↔ Runs xs sl d 105 16 [l0] [.int 1, s1, s0] H r := q_iconst (mo_105 15 rfl) rfl rfl
theorem r105_16 : Runs xs sl d 105 16 [l0] [.int u2, .ref b1, s0] H r ↔ ∃ v, hA H b1 0 u2 = some v ∧ Runs xs sl d 105 17 [l0] [.int v, s0] H r := run_iald (mo_105 16 rfl) rfl
theorem r105_17 (hc : hC H b0 = some 5) : Runs xs sl (d + 1) 105 17 [l0] [.int u1, .ref b0] H r ↔ ∃ v H1, Runs xs sl d 106 0 [some (.ref b0), some (.int u1)] [] H (v, H1) ∧ Runs xs sl (d + 1) 105 20 [l0] (v.toList ++ []) H1 r := q_callV (M' := 106) (as := [.int u1]) (rest := []) (mo_105 17 rfl) mow_105 rfl mcs_106 mmx_106 rfl (Nat.le_of_ble_eq_true rfl) (Nat.le_of_ble_eq_true rfl) rfl rfl hc
theorem r105_20 : Runs xs sl d 105 20 [some (.ref a0)] [] H r ↔ Runs xs sl d 105 21 [some (.ref a0)] [.ref a0] H r := q_aload_n (mo_105 20 rfl) rfl rfl
theorem r105_21 : Runs xs sl d 105 21 [l0] [.ref b0] H r ↔ ∃ v, hO H b0 5 5 = some v ∧ Runs xs sl d 105 24 [l0] [v] H r := q_getf (mo_105 21 rfl) mow_105 rfl rfl
theorem r105_24 : Runs xs sl d 105 24 [l0] [s0] H r ↔ Runs xs sl d 105 25 [l0] [.int 0, s0] H r := q_iconst (mo_105 24 rfl) rfl rfl
theorem r105_25 : Runs xs sl d 105 25 [l0] [.int u1, .ref b0] H r ↔ ∃ v, hA H b0 0 u1 = some v ∧ Runs xs sl d 105 26 [l0] [.int v] H r := run_iald (mo_105 25 rfl) rfl
theorem r105_26 : Runs xs sl d 105 26 [l0] [s0] H r ↔ Runs xs sl d 105 28 [l0] [.int 8, s0] H r := q_bipush (mo_105 26 rfl) rfl rfl
theorem r105_28 : Runs xs sl d 105 28 [l0] [.int u1, .int u0] H r ↔ if u1 ≤ u0 then Runs xs sl d 105 56 [l0] [] H r else Runs xs sl d 105 31 [l0] [] H r := q_icmp_ge (mo_105 28 rfl) rfl rfl
theorem r105_31 : Runs xs sl d 105 31 [some (.ref a0)] [] H r ↔ Runs xs sl d 105 32 [some (.ref a0)] [.ref a0] H r := q_aload_n (mo_105 31 rfl) rfl rfl
theorem r105_32 : Runs xs sl d 105 32 [l0] [.ref b0] H r ↔ ∃ v, hO H b0 5 0 = some v ∧ Runs xs sl d 105 35 [l0] [v] H r := q_getf (mo_105 32 rfl) mow_105 rfl rfl
theorem r105_35 : Runs xs sl d 105 35 [l0] [.ref b0] H r ↔ ∃ v, hO H b0 8 7 = some v ∧ Runs xs sl d 105 38 [l0] [v] H r := q_getf (mo_105 35 rfl) mow_105 rfl rfl
theorem r105_38 : Runs xs sl d 105 38 [some (.ref a0)] [s0] H r ↔ Runs xs sl d 105 39 [some (.ref a0)] [.ref a0, s0] H r := q_aload_n (mo_105 38 rfl) rfl rfl
theorem r105_39 : Runs xs sl d 105 39 [l0] [.ref b1, s0] H r ↔ ∃ v, hO H b1 5 5 = some v ∧ Runs xs sl d 105 42 [l0] [v, s0] H r := q_getf (mo_105 39 rfl) mow_105 rfl rfl
theorem r105_42 : Runs xs sl d 105 42 [l0] [s1, s0] H r ↔ Runs xs sl d 105 43 [l0] [.int 0, s1, s0] H r := q_iconst (mo_105 42 rfl) rfl rfl
theorem r105_43 : Runs xs sl d 105 43 [l0] [.int u2, .ref b1, s0] H r ↔ ∃ v, hA H b1 0 u2 = some v ∧ Runs xs sl d 105 44 [l0] [.int v, s0] H r := run_iald (mo_105 43 rfl) rfl
theorem r105_44 : Runs xs sl d 105 44 [l0] [.int u1, .ref b0] H r ↔ Runs xs sl d 105 45 [l0] [.int u1, .ref b0, .int u1, .ref b0] H r := q_dup2 (mo_105 44 rfl) rfl rfl rfl
theorem r105_45 : Runs xs sl d 105 45 [l0] [.int u3, .ref b2, s1, s0] H r ↔ ∃ v, hA H b2 0 u3 = some v ∧ Runs xs sl d 105 46 [l0] [.int v, s1, s0] H r := run_iald (mo_105 45 rfl) rfl
theorem r105_46 : Runs xs sl d 105 46 [l0] [s2, s1, s0] H r ↔ Runs xs sl d 105 47 [l0] [.int 1, s2, s1, s0] H r := q_iconst (mo_105 46 rfl) rfl rfl
theorem r105_47 : Runs xs sl d 105 47 [some (.ref a0)] [s3, s2, s1, s0] H r ↔ Runs xs sl d 105 48 [some (.ref a0)] [.ref a0, s3, s2, s1, s0] H r := q_aload_n (mo_105 47 rfl) rfl rfl
theorem r105_48 : Runs xs sl d 105 48 [l0] [.ref b4, s3, s2, s1, s0] H r ↔ ∃ v, hO H b4 5 5 = some v ∧ Runs xs sl d 105 51 [l0] [v, s3, s2, s1, s0] H r := q_getf (mo_105 48 rfl) mow_105 rfl rfl
theorem r105_51 : Runs xs sl d 105 51 [l0] [s4, s3, s2, s1, s0] H r ↔ Runs xs sl d 105 52 [l0] [.int 1, s4, s3, s2, s1, s0] H r := q_iconst (mo_105 51 rfl) rfl rfl
theorem r105_52 : Runs xs sl d 105 52 [l0] [.int u5, .ref b4, s3, s2, s1, s0] H r ↔ ∃ v, hA H b4 0 u5 = some v ∧ Runs xs sl d 105 53 [l0] [.int v, s3, s2, s1, s0] H r := run_iald (mo_105 52 rfl) rfl
theorem r105_53 : Runs xs sl d 105 53 [l0] [.int u4, .int u3, s2, s1, s0] H r ↔ Runs xs sl d 105 54 [l0] [.int (u3 <<< (u4 &&& 31)), s2, s1, s0] H r := q_ishl (mo_105 53 rfl) rfl
theorem r105_54 : Runs xs sl d 105 54 [l0] [.int u3, .int u2, s1, s0] H r ↔ Runs xs sl d 105 55 [l0] [.int (u2 ||| u3), s1, s0] H r := q_ior (mo_105 54 rfl) rfl
theorem r105_55 : Runs xs sl d 105 55 [l0] [.int u2, .int u1, .ref b0] H r ↔ ∃ H1, hAw H b0 0 u1 u2 = some H1 ∧ Runs xs sl d 105 56 [l0] [] H1 r := run_iast (mo_105 55 rfl) rfl
theorem r105_56 : Runs xs sl d 105 56 [l0] [] H r ↔ r = (none, H) := q_ret (mo_105 56 rfl) mrt_105
theorem r106_0 : Runs xs sl d 106 0 [some (.ref a0), l1] [] H r ↔ Runs xs sl d 106 1 [some (.ref a0), l1] [.ref a0] H r := q_aload_n (mo_106 0 rfl) rfl rfl
theorem r106_1 : Runs xs sl d 106 1 [some (.ref a0), l1] [s0] H r ↔ Runs xs sl d 106 2 [some (.ref a0), l1] [.ref a0, s0] H r := q_aload_n (mo_106 1 rfl) rfl rfl
theorem r106_2 : Runs xs sl d 106 2 [l0, l1] [.ref b1, s0] H r ↔ ∃ v, hO H b1 5 13 = some v ∧ Runs xs sl d 106 5 [l0, l1] [v, s0] H r := q_getf (mo_106 2 rfl) mow_106 rfl rfl
theorem r106_5 : Runs xs sl d 106 5 [l0, some (.int i1)] [s1, s0] H r ↔ Runs xs sl d 106 6 [l0, some (.int i1)] [.int i1, s1, s0] H r := q_iload_n (mo_106 5 rfl) rfl rfl
theorem r106_6 : Runs xs sl (d + 1) 106 6 [l0, l1] [.int u2, .int u1, .ref b0] H r ↔ Runs xs sl (d + 1) 106 9 [l0, l1] [.int (if u1 < u2 then u2 else u1), .ref b0] H r := q_mmax (mo_106 6 rfl) mow_106 rfl (Nat.le_of_ble_eq_true rfl) rfl
theorem r106_9 : Runs xs sl d 106 9 [l0, l1] [.int u1, .ref b0] H r ↔ ∃ H1, hOw H b0 5 13 (.int u1) = some H1 ∧ Runs xs sl d 106 12 [l0, l1] [] H1 r := q_putf (mo_106 9 rfl) mow_106 rfl rfl (by decide +kernel) rfl
theorem r106_12 : Runs xs sl d 106 12 [l0, l1] [] H r ↔ r = (none, H) := q_ret (mo_106 12 rfl) mrt_106
theorem r107_0 : Runs xs sl d 107 0 [some (.ref a0)] [] H r ↔ Runs xs sl d 107 1 [some (.ref a0)] [.ref a0] H r := q_aload_n (mo_107 0 rfl) rfl rfl
theorem r107_1 : Runs xs sl d 107 1 [some (.ref a0)] [s0] H r ↔ Runs xs sl d 107 2 [some (.ref a0)] [.ref a0, s0] H r := q_aload_n (mo_107 1 rfl) rfl rfl
theorem r107_2 : Runs xs sl d 107 2 [l0] [.ref b1, s0] H r ↔ ∃ v, hO H b1 5 5 = some v ∧ Runs xs sl d 107 5 [l0] [v, s0] H r := q_getf (mo_107 2 rfl) mow_107 rfl rfl
theorem r107_5 : Runs xs sl d 107 5 [l0] [s1, s0] H r ↔ Runs xs sl d 107 6 [l0] [.int 0, s1, s0] H r := q_iconst (mo_107 5 rfl) rfl rfl
theorem r107_6 : Runs xs sl d 107 6 [l0] [.int u2, .ref b1, s0] H r ↔ ∃ v, hA H b1 0 u2 = some v ∧ Runs xs sl d 107 7 [l0] [.int v, s0] H r := run_iald (mo_107 6 rfl) rfl
theorem r107_7 (hc : hC H b0 = some 5) : Runs xs sl (d + 1) 107 7 [l0] [.int u1, .ref b0] H r ↔ ∃ v H1, Runs xs sl d 106 0 [some (.ref b0), some (.int u1)] [] H (v, H1) ∧ Runs xs sl (d + 1) 107 10 [l0] (v.toList ++ []) H1 r := q_callV (M' := 106) (as := [.int u1]) (rest := []) (mo_107 7 rfl) mow_107 rfl mcs_106 mmx_106 rfl (Nat.le_of_ble_eq_true rfl) (Nat.le_of_ble_eq_true rfl) rfl rfl hc
theorem r107_10 : Runs xs sl d 107 10 [some (.ref a0)] [] H r ↔ Runs xs sl d 107 11 [some (.ref a0)] [.ref a0] H r := q_aload_n (mo_107 10 rfl) rfl rfl
theorem r107_11 : Runs xs sl d 107 11 [some (.ref a0)] [s0] H r ↔ Runs xs sl d 107 12 [some (.ref a0)] [.ref a0, s0] H r := q_aload_n (mo_107 11 rfl) rfl rfl
theorem r107_12 : Runs xs sl d 107 12 [l0] [.ref b1, s0] H r ↔ ∃ v, hO H b1 5 5 = some v ∧ Runs xs sl d 107 15 [l0] [v, s0] H r := q_getf (mo_107 12 rfl) mow_107 rfl rfl
theorem r107_15 : Runs xs sl d 107 15 [l0] [s1, s0] H r ↔ Runs xs sl d 107 16 [l0] [.int 1, s1, s0] H r := q_iconst (mo_107 15 rfl) rfl rfl
theorem r107_16 : Runs xs sl d 107 16 [l0] [.int u2, .ref b1, s0] H r ↔ ∃ v, hA H b1 0 u2 = some v ∧ Runs xs sl d 107 17 [l0] [.int v, s0] H r := run_iald (mo_107 16 rfl) rfl
theorem r107_17 (hc : hC H b0 = some 5) : Runs xs sl (d + 1) 107 17 [l0] [.int u1, .ref b0] H r ↔ ∃ v H1, Runs xs sl d 108 0 [some (.ref b0), some (.int u1)] [] H (v, H1) ∧ Runs xs sl (d + 1) 107 20 [l0] (v.toList ++ []) H1 r := q_callV (M' := 108) (as := [.int u1]) (rest := []) (mo_107 17 rfl) mow_107 rfl mcs_108 mmx_108 rfl (Nat.le_of_ble_eq_true rfl) (Nat.le_of_ble_eq_true rfl) rfl rfl hc
theorem r107_20 : Runs xs sl d 107 20 [some (.ref a0)] [] H r ↔ Runs xs sl d 107 21 [some (.ref a0)] [.ref a0] H r := q_aload_n (mo_107 20 rfl) rfl rfl
theorem r107_21 : Runs xs sl d 107 21 [l0] [.ref b0] H r ↔ ∃ v, hO H b0 5 5 = some v ∧ Runs xs sl d 107 24 [l0] [v] H r := q_getf (mo_107 21 rfl) mow_107 rfl rfl
theorem r107_24 : Runs xs sl d 107 24 [l0] [s0] H r ↔ Runs xs sl d 107 25 [l0] [.int 0, s0] H r := q_iconst (mo_107 24 rfl) rfl rfl
theorem r107_25 : Runs xs sl d 107 25 [l0] [.int u1, .ref b0] H r ↔ ∃ v, hA H b0 0 u1 = some v ∧ Runs xs sl d 107 26 [l0] [.int v] H r := run_iald (mo_107 25 rfl) rfl
theorem r107_26 : Runs xs sl d 107 26 [l0] [s0] H r ↔ Runs xs sl d 107 28 [l0] [.int 8, s0] H r := q_bipush (mo_107 26 rfl) rfl rfl
theorem r107_28 : Runs xs sl d 107 28 [l0] [.int u1, .int u0] H r ↔ if u1 ≤ u0 then Runs xs sl d 107 70 [l0] [] H r else Runs xs sl d 107 31 [l0] [] H r := q_icmp_ge (mo_107 28 rfl) rfl rfl
theorem r107_31 : Runs xs sl d 107 31 [some (.ref a0)] [] H r ↔ Runs xs sl d 107 32 [some (.ref a0)] [.ref a0] H r := q_aload_n (mo_107 31 rfl) rfl rfl
theorem r107_32 : Runs xs sl d 107 32 [l0] [.ref b0] H r ↔ ∃ v, hO H b0 5 5 = some v ∧ Runs xs sl d 107 35 [l0] [v] H r := q_getf (mo_107 32 rfl) mow_107 rfl rfl
theorem r107_35 : Runs xs sl d 107 35 [l0] [s0] H r ↔ Runs xs sl d 107 36 [l0] [.int 1, s0] H r := q_iconst (mo_107 35 rfl) rfl rfl
theorem r107_36 : Runs xs sl d 107 36 [l0] [.int u1, .ref b0] H r ↔ ∃ v, hA H b0 0 u1 = some v ∧ Runs xs sl d 107 37 [l0] [.int v] H r := run_iald (mo_107 36 rfl) rfl
theorem r107_37 : Runs xs sl d 107 37 [l0] [s0] H r ↔ Runs xs sl d 107 39 [l0] [.int 6, s0] H r := q_bipush (mo_107 37 rfl) rfl rfl
theorem r107_39 : Runs xs sl d 107 39 [l0] [.int u1, .int u0] H r ↔ if u1 ≤ u0 then Runs xs sl d 107 70 [l0] [] H r else Runs xs sl d 107 42 [l0] [] H r := q_icmp_ge (mo_107 39 rfl) rfl rfl
theorem r107_42 : Runs xs sl d 107 42 [some (.ref a0)] [] H r ↔ Runs xs sl d 107 43 [some (.ref a0)] [.ref a0] H r := q_aload_n (mo_107 42 rfl) rfl rfl
theorem r107_43 : Runs xs sl d 107 43 [l0] [.ref b0] H r ↔ ∃ v, hO H b0 5 0 = some v ∧ Runs xs sl d 107 46 [l0] [v] H r := q_getf (mo_107 43 rfl) mow_107 rfl rfl
theorem r107_46 : Runs xs sl d 107 46 [l0] [.ref b0] H r ↔ ∃ v, hO H b0 8 8 = some v ∧ Runs xs sl d 107 49 [l0] [v] H r := q_getf (mo_107 46 rfl) mow_107 rfl rfl
theorem r107_49 : Runs xs sl d 107 49 [some (.ref a0)] [s0] H r ↔ Runs xs sl d 107 50 [some (.ref a0)] [.ref a0, s0] H r := q_aload_n (mo_107 49 rfl) rfl rfl
theorem r107_50 : Runs xs sl d 107 50 [l0] [.ref b1, s0] H r ↔ ∃ v, hO H b1 5 5 = some v ∧ Runs xs sl d 107 53 [l0] [v, s0] H r := q_getf (mo_107 50 rfl) mow_107 rfl rfl
theorem r107_53 : Runs xs sl d 107 53 [l0] [s1, s0] H r ↔ Runs xs sl d 107 54 [l0] [.int 0, s1, s0] H r := q_iconst (mo_107 53 rfl) rfl rfl
theorem r107_54 : Runs xs sl d 107 54 [l0] [.int u2, .ref b1, s0] H r ↔ ∃ v, hA H b1 0 u2 = some v ∧ Runs xs sl d 107 55 [l0] [.int v, s0] H r := run_iald (mo_107 54 rfl) rfl
theorem r107_55 : Runs xs sl d 107 55 [l0] [s1, s0] H r ↔ Runs xs sl d 107 57 [l0] [.int 6, s1, s0] H r := q_bipush (mo_107 55 rfl) rfl rfl
theorem r107_57 : Runs xs sl d 107 57 [l0] [.int u2, .int u1, s0] H r ↔ Runs xs sl d 107 58 [l0] [.int (u1 * u2), s0] H r := q_imul (mo_107 57 rfl) rfl
theorem r107_58 : Runs xs sl d 107 58 [some (.ref a0)] [s1, s0] H r ↔ Runs xs sl d 107 59 [some (.ref a0)] [.ref a0, s1, s0] H r := q_aload_n (mo_107 58 rfl) rfl rfl
theorem r107_59 : Runs xs sl d 107 59 [l0] [.ref b2, s1, s0] H r ↔ ∃ v, hO H b2 5 5 = some v ∧ Runs xs sl d 107 62 [l0] [v, s1, s0] H r := q_getf (mo_107 59 rfl) mow_107 rfl rfl
theorem r107_62 : Runs xs sl d 107 62 [l0] [s2, s1, s0] H r ↔ Runs xs sl d 107 63 [l0] [.int 1, s2, s1, s0] H r := q_iconst (mo_107 62 rfl) rfl rfl
theorem r107_63 : Runs xs sl d 107 63 [l0] [.int u3, .ref b2, s1, s0] H r ↔ ∃ v, hA H b2 0 u3 = some v ∧ Runs xs sl d 107 64 [l0] [.int v, s1, s0] H r := run_iald (mo_107 63 rfl) rfl
theorem r107_64 : Runs xs sl d 107 64 [l0] [.int u2, .int u1, s0] H r ↔ Runs xs sl d 107 65 [l0] [.int (u1 + u2), s0] H r := q_iadd (mo_107 64 rfl) rfl
theorem r107_65 : Runs xs sl d 107 65 [some (.ref a0)] [s1, s0] H r ↔ Runs xs sl d 107 66 [some (.ref a0)] [.ref a0, s1, s0] H r := q_aload_n (mo_107 65 rfl) rfl rfl
theorem r107_66 (hc : hC H b2 = some 5) : Runs xs sl (d + 1) 107 66 [l0] [.ref b2, .int u1, .ref b0] H r ↔ ∃ v H1, Runs xs sl d 109 0 [some (.ref b2)] [] H (v, H1) ∧ Runs xs sl (d + 1) 107 69 [l0] (v.toList ++ [.int u1, .ref b0]) H1 r := q_callV (M' := 109) (as := []) (rest := [.int u1, .ref b0]) (mo_107 66 rfl) mow_107 rfl mcs_109 mmx_109 rfl (Nat.le_of_ble_eq_true rfl) (Nat.le_of_ble_eq_true rfl) rfl rfl hc
theorem r107_69 : Runs xs sl d 107 69 [l0] [.int u2, .int u1, .ref b0] H r ↔ ∃ H1, hAw H b0 0 u1 u2 = some H1 ∧ Runs xs sl d 107 70 [l0] [] H1 r := run_iast (mo_107 69 rfl) rfl
theorem r107_70 : Runs xs sl d 107 70 [l0] [] H r ↔ r = (none, H) := q_ret (mo_107 70 rfl) mrt_107
theorem r108_0 : Runs xs sl d 108 0 [some (.ref a0), l1] [] H r ↔ Runs xs sl d 108 1 [some (.ref a0), l1] [.ref a0] H r := q_aload_n (mo_108 0 rfl) rfl rfl
theorem r108_1 : Runs xs sl d 108 1 [some (.ref a0), l1] [s0] H r ↔ Runs xs sl d 108 2 [some (.ref a0), l1] [.ref a0, s0] H r := q_aload_n (mo_108 1 rfl) rfl rfl
theorem r108_2 : Runs xs sl d 108 2 [l0, l1] [.ref b1, s0] H r ↔ ∃ v, hO H b1 5 14 = some v ∧ Runs xs sl d 108 5 [l0, l1] [v, s0] H r := q_getf (mo_108 2 rfl) mow_108 rfl rfl
theorem r108_5 : Runs xs sl d 108 5 [l0, some (.int i1)] [s1, s0] H r ↔ Runs xs sl d 108 6 [l0, some (.int i1)] [.int i1, s1, s0] H r := q_iload_n (mo_108 5 rfl) rfl rfl
theorem r108_6 : Runs xs sl (d + 1) 108 6 [l0, l1] [.int u2, .int u1, .ref b0] H r ↔ Runs xs sl (d + 1) 108 9 [l0, l1] [.int (if u1 < u2 then u2 else u1), .ref b0] H r := q_mmax (mo_108 6 rfl) mow_108 rfl (Nat.le_of_ble_eq_true rfl) rfl
theorem r108_9 : Runs xs sl d 108 9 [l0, l1] [.int u1, .ref b0] H r ↔ ∃ H1, hOw H b0 5 14 (.int u1) = some H1 ∧ Runs xs sl d 108 12 [l0, l1] [] H1 r := q_putf (mo_108 9 rfl) mow_108 rfl rfl (by decide +kernel) rfl
theorem r108_12 : Runs xs sl d 108 12 [l0, l1] [] H r ↔ r = (none, H) := q_ret (mo_108 12 rfl) mrt_108
theorem r109_0 : Runs xs sl d 109 0 [some (.ref a0)] [] H r ↔ Runs xs sl d 109 1 [some (.ref a0)] [.ref a0] H r := q_aload_n (mo_109 0 rfl) rfl rfl
theorem r109_1 : Runs xs sl d 109 1 [l0] [.ref b0] H r ↔ ∃ v, hO H b0 5 5 = some v ∧ Runs xs sl d 109 4 [l0] [v] H r := q_getf (mo_109 1 rfl) mow_109 rfl rfl
theorem r109_4 : Runs xs sl d 109 4 [l0] [s0] H r ↔ Runs xs sl d 109 5 [l0] [.int 2, s0] H r := q_iconst (mo_109 4 rfl) rfl rfl
theorem r109_5 : Runs xs sl d 109 5 [l0] [.int u1, .ref b0] H r ↔ ∃ v, hA H b0 0 u1 = some v ∧ Runs xs sl d 109 6 [l0] [.int v] H r := run_iald (mo_109 5 rfl) rfl
theorem r109_6 : Runs xs sl d 109 6 [l0] [s0] H r ↔ Runs xs sl d 109 8 [l0] [.int 21, s0] H r := q_bipush (mo_109 6 rfl) rfl rfl
theorem r109_8 : Runs xs sl d 109 8 [l0] [.int u1, .int u0] H r ↔ if ¬ u0 = u1 then Runs xs sl d 109 21 [l0] [] H r else Runs xs sl d 109 11 [l0] [] H r := q_icmp_ne (mo_109 8 rfl) rfl rfl
theorem r109_11 : Runs xs sl d 109 11 [some (.ref a0)] [] H r ↔ Runs xs sl d 109 12 [some (.ref a0)] [.ref a0] H r := q_aload_n (mo_109 11 rfl) rfl rfl
theorem r109_12 : Runs xs sl d 109 12 [l0] [.ref b0] H r ↔ ∃ v, hO H b0 5 5 = some v ∧ Runs xs sl d 109 15 [l0] [v] H r := q_getf (mo_109 12 rfl) mow_109 rfl rfl
theorem r109_15 : Runs xs sl d 109 15 [l0] [s0] H r ↔ Runs xs sl d 109 16 [l0] [.int 3, s0] H r := q_iconst (mo_109 15 rfl) rfl rfl
theorem r109_16 : Runs xs sl d 109 16 [l0] [.int u1, .ref b0] H r ↔ ∃ v, hA H b0 0 u1 = some v ∧ Runs xs sl d 109 17 [l0] [.int v] H r := run_iald (mo_109 16 rfl) rfl
theorem r109_17 : Runs xs sl d 109 17 [l0] [.int u0] H r ↔ Runs xs sl d 109 18 [l0] [.int (-u0)] H r := q_ineg (mo_109 17 rfl) rfl
theorem r109_18 : Runs xs sl d 109 18 [l0] [s0] H r ↔ Runs xs sl d 109 27 [l0] [s0] H r := q_goto (mo_109 18 rfl) rfl
theorem r109_21 : Runs xs sl d 109 21 [some (.ref a0)] [] H r ↔ Runs xs sl d 109 22 [some (.ref a0)] [.ref a0] H r := q_aload_n (mo_109 21 rfl) rfl rfl
theorem r109_22 : Runs xs sl d 109 22 [l0] [.ref b0] H r ↔ ∃ v, hO H b0 5 5 = some v ∧ Runs xs sl d 109 25 [l0] [v] H r := q_getf (mo_109 22 rfl) mow_109 rfl rfl
theorem r109_25 : Runs xs sl d 109 25 [l0] [s0] H r ↔ Runs xs sl d 109 26 [l0] [.int 3, s0] H r := q_iconst (mo_109 25 rfl) rfl rfl
theorem r109_26 : Runs xs sl d 109 26 [l0] [.int u1, .ref b0] H r ↔ ∃ v, hA H b0 0 u1 = some v ∧ Runs xs sl d 109 27 [l0] [.int v] H r := run_iald (mo_109 26 rfl) rfl
theorem r109_27 : Runs xs sl d 109 27 [l0] [.int u0] H r ↔ r = (some (.int u0), H) := q_iret (mo_109 27 rfl) mrt_109
theorem r110_0 : Runs xs sl d 110 0 [some (.ref a0), l1] [] H r ↔ Runs xs sl d 110 1 [some (.ref a0), l1] [.ref a0] H r := q_aload_n (mo_110 0 rfl) rfl rfl
theorem r110_1 : Runs xs sl d 110 1 [some (.ref a0), l1] [s0] H r ↔ Runs xs sl d 110 2 [some (.ref a0), l1] [.ref a0, s0] H r := q_aload_n (mo_110 1 rfl) rfl rfl
theorem r110_2 : Runs xs sl d 110 2 [l0, l1] [.ref b1, s0] H r ↔ ∃ v, hO H b1 5 5 = some v ∧ Runs xs sl d 110 5 [l0, l1] [v, s0] H r := q_getf (mo_110 2 rfl) mow_110 rfl rfl
theorem r110_5 : Runs xs sl d 110 5 [l0, l1] [s1, s0] H r ↔ Runs xs sl d 110 6 [l0, l1] [.int 1, s1, s0] H r := q_iconst (mo_110 5 rfl) rfl rfl
theorem r110_6 : Runs xs sl d 110 6 [l0, l1] [.int u2, .ref b1, s0] H r ↔ ∃ v, hA H b1 0 u2 = some v ∧ Runs xs sl d 110 7 [l0, l1] [.int v, s0] H r := run_iald (mo_110 6 rfl) rfl
theorem r110_7 (hc : hC H b0 = some 5) : Runs xs sl (d + 1) 110 7 [l0, l1] [.int u1, .ref b0] H r ↔ ∃ v H1, Runs xs sl d 108 0 [some (.ref b0), some (.int u1)] [] H (v, H1) ∧ Runs xs sl (d + 1) 110 10 [l0, l1] (v.toList ++ []) H1 r := q_callV (M' := 108) (as := [.int u1]) (rest := []) (mo_110 7 rfl) mow_110 rfl mcs_108 mmx_108 rfl (Nat.le_of_ble_eq_true rfl) (Nat.le_of_ble_eq_true rfl) rfl rfl hc
theorem r110_10 : Runs xs sl d 110 10 [some (.ref a0), l1] [] H r ↔ Runs xs sl d 110 11 [some (.ref a0), l1] [.ref a0] H r := q_aload_n (mo_110 10 rfl) rfl rfl
theorem r110_11 : Runs xs sl d 110 11 [l0, l1] [.ref b0] H r ↔ ∃ v, hO H b0 5 0 = some v ∧ Runs xs sl d 110 14 [l0, l1] [v] H r := q_getf (mo_110 11 rfl) mow_110 rfl rfl
theorem r110_14 : Runs xs sl d 110 14 [l0, l1] [.ref b0] H r ↔ ∃ v, hO H b0 8 3 = some v ∧ Runs xs sl d 110 17 [l0, l1] [v] H r := q_getf (mo_110 14 rfl) mow_110 rfl rfl
theorem r110_17 : Runs xs sl d 110 17 [l0, l1] [s0] H r ↔ Runs xs sl d 110 19 [l0, l1] [.int 12, s0] H r := q_bipush (mo_110 17 rfl) rfl rfl
theorem r110_19 : Runs xs sl d 110 19 [l0, l1] [.int u1, .int u0] H r ↔ if u1 ≤ u0 then Runs xs sl d 110 92 [l0, l1] [] H r else Runs xs sl d 110 22 [l0, l1] [] H r := q_icmp_ge (mo_110 19 rfl) rfl rfl
theorem r110_22 : Runs xs sl d 110 22 [some (.ref a0), l1] [] H r ↔ Runs xs sl d 110 23 [some (.ref a0), l1] [.ref a0] H r := q_aload_n (mo_110 22 rfl) rfl rfl
theorem r110_23 : Runs xs sl d 110 23 [l0, l1] [.ref b0] H r ↔ ∃ v, hO H b0 5 0 = some v ∧ Runs xs sl d 110 26 [l0, l1] [v] H r := q_getf (mo_110 23 rfl) mow_110 rfl rfl
theorem r110_26 : Runs xs sl d 110 26 [l0, l1] [.ref b0] H r ↔ ∃ v, hO H b0 8 3 = some v ∧ Runs xs sl d 110 29 [l0, l1] [v] H r := q_getf (mo_110 26 rfl) mow_110 rfl rfl
theorem r110_29 : Runs xs sl d 110 29 [l0, l1] [s0] H r ↔ Runs xs sl d 110 30 [l0, l1] [.int 3, s0] H r := q_iconst (mo_110 29 rfl) rfl rfl
theorem r110_30 : Runs xs sl d 110 30 [l0, l1] [.int u1, .int u0] H r ↔ Runs xs sl d 110 31 [l0, l1] [.int (u0 * u1)] H r := q_imul (mo_110 30 rfl) rfl
theorem r110_31 : Runs xs sl d 110 31 [some (.ref a0), l1] [.int u0] H r ↔ Runs xs sl d 110 32 [some (.ref a0), some (.int u0)] [] H r := q_istore_n (mo_110 31 rfl) (Nat.le_of_ble_eq_true rfl) rfl rfl
theorem r110_31_1 : Runs xs sl d 110 31 [some .null, l1] [.int u0] H r ↔ Runs xs sl d 110 32 [some .null, some (.int u0)] [] H r := q_istore_n (mo_110 31 rfl) (Nat.le_of_ble_eq_true rfl) rfl rfl
theorem r110_32 : Runs xs sl d 110 32 [some (.ref a0), l1] [] H r ↔ Runs xs sl d 110 33 [some (.ref a0), l1] [.ref a0] H r := q_aload_n (mo_110 32 rfl) rfl rfl
theorem r110_33 : Runs xs sl d 110 33 [l0, l1] [.ref b0] H r ↔ ∃ v, hO H b0 5 0 = some v ∧ Runs xs sl d 110 36 [l0, l1] [v] H r := q_getf (mo_110 33 rfl) mow_110 rfl rfl
theorem r110_36 : Runs xs sl d 110 36 [l0, l1] [.ref b0] H r ↔ ∃ v, hO H b0 8 9 = some v ∧ Runs xs sl d 110 39 [l0, l1] [v] H r := q_getf (mo_110 36 rfl) mow_110 rfl rfl
theorem r110_39 : Runs xs sl d 110 39 [l0, some (.int i1)] [s0] H r ↔ Runs xs sl d 110 40 [l0, some (.int i1)] [.int i1, s0] H r := q_iload_n (mo_110 39 rfl) rfl rfl
theorem r110_40 : Runs xs sl d 110 40 [some (.ref a0), l1] [s1, s0] H r ↔ Runs xs sl d 110 41 [some (.ref a0), l1] [.ref a0, s1, s0] H r := q_aload_n (mo_110 40 rfl) rfl rfl
theorem r110_41 : Runs xs sl d 110 41 [l0, l1] [.ref b2, s1, s0] H r ↔ ∃ v, hO H b2 5 5 = some v ∧ Runs xs sl d 110 44 [l0, l1] [v, s1, s0] H r := q_getf (mo_110 41 rfl) mow_110 rfl rfl
theorem r110_44 : Runs xs sl d 110 44 [l0, l1] [s2, s1, s0] H r ↔ Runs xs sl d 110 45 [l0, l1] [.int 0, s2, s1, s0] H r := q_iconst (mo_110 44 rfl) rfl rfl
theorem r110_45 : Runs xs sl d 110 45 [l0, l1] [.int u3, .ref b2, s1, s0] H r ↔ ∃ v, hA H b2 0 u3 = some v ∧ Runs xs sl d 110 46 [l0, l1] [.int v, s1, s0] H r := run_iald (mo_110 45 rfl) rfl
theorem r110_46 : Runs xs sl d 110 46 [l0, l1] [.int u2, .int u1, .ref b0] H r ↔ ∃ H1, hAw H b0 0 u1 u2 = some H1 ∧ Runs xs sl d 110 47 [l0, l1] [] H1 r := run_iast (mo_110 46 rfl) rfl
theorem r110_47 : Runs xs sl d 110 47 [some (.ref a0), l1] [] H r ↔ Runs xs sl d 110 48 [some (.ref a0), l1] [.ref a0] H r := q_aload_n (mo_110 47 rfl) rfl rfl
theorem r110_48 : Runs xs sl d 110 48 [l0, l1] [.ref b0] H r ↔ ∃ v, hO H b0 5 0 = some v ∧ Runs xs sl d 110 51 [l0, l1] [v] H r := q_getf (mo_110 48 rfl) mow_110 rfl rfl
theorem r110_51 : Runs xs sl d 110 51 [l0, l1] [.ref b0] H r ↔ ∃ v, hO H b0 8 9 = some v ∧ Runs xs sl d 110 54 [l0, l1] [v] H r := q_getf (mo_110 51 rfl) mow_110 rfl rfl
theorem r110_54 : Runs xs sl d 110 54 [l0, some (.int i1)] [s0] H r ↔ Runs xs sl d 110 55 [l0, some (.int i1)] [.int i1, s0] H r := q_iload_n (mo_110 54 rfl) rfl rfl
theorem r110_55 : Runs xs sl d 110 55 [l0, l1] [s1, s0] H r ↔ Runs xs sl d 110 56 [l0, l1] [.int 1, s1, s0] H r := q_iconst (mo_110 55 rfl) rfl rfl
theorem r110_56 : Runs xs sl d 110 56 [l0, l1] [.int u2, .int u1, s0] H r ↔ Runs xs sl d 110 57 [l0, l1] [.int (u1 + u2), s0] H r := q_iadd (mo_110 56 rfl) rfl
theorem r110_57 : Runs xs sl d 110 57 [some (.ref a0), l1] [s1, s0] H r ↔ Runs xs sl d 110 58 [some (.ref a0), l1] [.ref a0, s1, s0] H r := q_aload_n (mo_110 57 rfl) rfl rfl
theorem r110_58 : Runs xs sl d 110 58 [l0, l1] [.ref b2, s1, s0] H r ↔ ∃ v, hO H b2 5 5 = some v ∧ Runs xs sl d 110 61 [l0, l1] [v, s1, s0] H r := q_getf (mo_110 58 rfl) mow_110 rfl rfl
theorem r110_61 : Runs xs sl d 110 61 [l0, l1] [s2, s1, s0] H r ↔ Runs xs sl d 110 62 [l0, l1] [.int 1, s2, s1, s0] H r := q_iconst (mo_110 61 rfl) rfl rfl
theorem r110_62 : Runs xs sl d 110 62 [l0, l1] [.int u3, .ref b2, s1, s0] H r ↔ ∃ v, hA H b2 0 u3 = some v ∧ Runs xs sl d 110 63 [l0, l1] [.int v, s1, s0] H r := run_iald (mo_110 62 rfl) rfl
theorem r110_63 : Runs xs sl d 110 63 [l0, l1] [.int u2, .int u1, .ref b0] H r ↔ ∃ H1, hAw H b0 0 u1 u2 = some H1 ∧ Runs xs sl d 110 64 [l0, l1] [] H1 r := run_iast (mo_110 63 rfl) rfl
theorem r110_64 : Runs xs sl d 110 64 [some (.ref a0), l1] [] H r ↔ Runs xs sl d 110 65 [some (.ref a0), l1] [.ref a0] H r := q_aload_n (mo_110 64 rfl) rfl rfl
theorem r110_65 : Runs xs sl d 110 65 [l0, l1] [.ref b0] H r ↔ ∃ v, hO H b0 5 0 = some v ∧ Runs xs sl d 110 68 [l0, l1] [v] H r := q_getf (mo_110 65 rfl) mow_110 rfl rfl
theorem r110_68 : Runs xs sl d 110 68 [l0, l1] [.ref b0] H r ↔ ∃ v, hO H b0 8 9 = some v ∧ Runs xs sl d 110 71 [l0, l1] [v] H r := q_getf (mo_110 68 rfl) mow_110 rfl rfl
theorem r110_71 : Runs xs sl d 110 71 [l0, some (.int i1)] [s0] H r ↔ Runs xs sl d 110 72 [l0, some (.int i1)] [.int i1, s0] H r := q_iload_n (mo_110 71 rfl) rfl rfl
theorem r110_72 : Runs xs sl d 110 72 [l0, l1] [s1, s0] H r ↔ Runs xs sl d 110 73 [l0, l1] [.int 2, s1, s0] H r := q_iconst (mo_110 72 rfl) rfl rfl
theorem r110_73 : Runs xs sl d 110 73 [l0, l1] [.int u2, .int u1, s0] H r ↔ Runs xs sl d 110 74 [l0, l1] [.int (u1 + u2), s0] H r := q_iadd (mo_110 73 rfl) rfl
theorem r110_74 : Runs xs sl d 110 74 [some (.ref a0), l1] [s1, s0] H r ↔ Runs xs sl d 110 75 [some (.ref a0), l1] [.ref a0, s1, s0] H r := q_aload_n (mo_110 74 rfl) rfl rfl
theorem r110_75 (hc : hC H b2 = some 5) : Runs xs sl (d + 1) 110 75 [l0, l1] [.ref b2, .int u1, .ref b0] H r ↔ ∃ v H1, Runs xs sl d 109 0 [some (.ref b2)] [] H (v, H1) ∧ Runs xs sl (d + 1) 110 78 [l0, l1] (v.toList ++ [.int u1, .ref b0]) H1 r := q_callV (M' := 109) (as := []) (rest := [.int u1, .ref b0]) (mo_110 75 rfl) mow_110 rfl mcs_109 mmx_109 rfl (Nat.le_of_ble_eq_true rfl) (Nat.le_of_ble_eq_true rfl) rfl rfl hc
theorem r110_78 : Runs xs sl d 110 78 [l0, l1] [.int u2, .int u1, .ref b0] H r ↔ ∃ H1, hAw H b0 0 u1 u2 = some H1 ∧ Runs xs sl d 110 79 [l0, l1] [] H1 r := run_iast (mo_110 78 rfl) rfl
theorem r110_79 : Runs xs sl d 110 79 [some (.ref a0), l1] [] H r ↔ Runs xs sl d 110 80 [some (.ref a0), l1] [.ref a0] H r := q_aload_n (mo_110 79 rfl) rfl rfl
theorem r110_80 : Runs xs sl d 110 80 [l0, l1] [.ref b0] H r ↔ ∃ v, hO H b0 5 0 = some v ∧ Runs xs sl d 110 83 [l0, l1] [v] H r := q_getf (mo_110 80 rfl) mow_110 rfl rfl
theorem r110_83 : Runs xs sl d 110 83 [l0, l1] [.ref b0] H r ↔ Runs xs sl d 110 84 [l0, l1] [.ref b0, .ref b0] H r := q_dup (mo_110 83 rfl) rfl rfl
theorem r110_84 : Runs xs sl d 110 84 [l0, l1] [.ref b1, s0] H r ↔ ∃ v, hO H b1 8 3 = some v ∧ Runs xs sl d 110 87 [l0, l1] [v, s0] H r := q_getf (mo_110 84 rfl) mow_110 rfl rfl
theorem r110_87 : Runs xs sl d 110 87 [l0, l1] [s1, s0] H r ↔ Runs xs sl d 110 88 [l0, l1] [.int 1, s1, s0] H r := q_iconst (mo_110 87 rfl) rfl rfl
theorem r110_88 : Runs xs sl d 110 88 [l0, l1] [.int u2, .int u1, s0] H r ↔ Runs xs sl d 110 89 [l0, l1] [.int (u1 + u2), s0] H r := q_iadd (mo_110 88 rfl) rfl
theorem r110_89 : Runs xs sl d 110 89 [l0, l1] [.int u1, .ref b0] H r ↔ ∃ H1, hOw H b0 8 3 (.int u1) = some H1 ∧ Runs xs sl d 110 92 [l0, l1] [] H1 r := q_putf (mo_110 89 rfl) mow_110 rfl rfl (by decide +kernel) rfl
theorem r110_92 : Runs xs sl d 110 92 [l0, l1] [] H r ↔ r = (none, H) := q_ret (mo_110 92 rfl) mrt_110
theorem r111_0 : Runs xs sl d 111 0 [some (.ref a0)] [] H r ↔ Runs xs sl d 111 1 [some (.ref a0)] [.ref a0] H r := q_aload_n (mo_111 0 rfl) rfl rfl
theorem r111_1 : Runs xs sl d 111 1 [l0] [.ref b0] H r ↔ ∃ v, hO H b0 5 0 = some v ∧ Runs xs sl d 111 4 [l0] [v] H r := q_getf (mo_111 1 rfl) mow_111 rfl rfl
theorem r111_4 : Runs xs sl d 111 4 [l0] [.ref b0] H r ↔ ∃ v, hO H b0 8 4 = some v ∧ Runs xs sl d 111 7 [l0] [v] H r := q_getf (mo_111 4 rfl) mow_111 rfl rfl
theorem r111_7 : Runs xs sl d 111 7 [l0] [s0] H r ↔ Runs xs sl d 111 9 [l0] [.int 8, s0] H r := q_bipush (mo_111 7 rfl) rfl rfl
theorem r111_9 : Runs xs sl d 111 9 [l0] [.int u1, .int u0] H r ↔ if u1 ≤ u0 then Runs xs sl d 111 67 [l0] [] H r else Runs xs sl d 111 12 [l0] [] H r := q_icmp_ge (mo_111 9 rfl) rfl rfl
theorem r111_12 : Runs xs sl d 111 12 [some (.ref a0)] [] H r ↔ Runs xs sl d 111 13 [some (.ref a0)] [.ref a0] H r := q_aload_n (mo_111 12 rfl) rfl rfl
theorem r111_13 : Runs xs sl d 111 13 [l0] [.ref b0] H r ↔ ∃ v, hO H b0 5 0 = some v ∧ Runs xs sl d 111 16 [l0] [v] H r := q_getf (mo_111 13 rfl) mow_111 rfl rfl
theorem r111_16 : Runs xs sl d 111 16 [l0] [.ref b0] H r ↔ ∃ v, hO H b0 8 10 = some v ∧ Runs xs sl d 111 19 [l0] [v] H r := q_getf (mo_111 16 rfl) mow_111 rfl rfl
theorem r111_19 : Runs xs sl d 111 19 [some (.ref a0)] [s0] H r ↔ Runs xs sl d 111 20 [some (.ref a0)] [.ref a0, s0] H r := q_aload_n (mo_111 19 rfl) rfl rfl
theorem r111_20 : Runs xs sl d 111 20 [l0] [.ref b1, s0] H r ↔ ∃ v, hO H b1 5 0 = some v ∧ Runs xs sl d 111 23 [l0] [v, s0] H r := q_getf (mo_111 20 rfl) mow_111 rfl rfl
theorem r111_23 : Runs xs sl d 111 23 [l0] [.ref b1, s0] H r ↔ ∃ v, hO H b1 8 4 = some v ∧ Runs xs sl d 111 26 [l0] [v, s0] H r := q_getf (mo_111 23 rfl) mow_111 rfl rfl
theorem r111_26 : Runs xs sl d 111 26 [some (.ref a0)] [s1, s0] H r ↔ Runs xs sl d 111 27 [some (.ref a0)] [.ref a0, s1, s0] H r := q_aload_n (mo_111 26 rfl) rfl rfl
theorem r111_27 : Runs xs sl d 111 27 [l0] [.ref b2, s1, s0] H r ↔ ∃ v, hO H b2 5 5 = some v ∧ Runs xs sl d 111 30 [l0] [v, s1, s0] H r := q_getf (mo_111 27 rfl) mow_111 rfl rfl
theorem r111_30 : Runs xs sl d 111 30 [l0] [s2, s1, s0] H r ↔ Runs xs sl d 111 31 [l0] [.int 0, s2, s1, s0] H r := q_iconst (mo_111 30 rfl) rfl rfl
theorem r111_31 : Runs xs sl d 111 31 [l0] [.int u3, .ref b2, s1, s0] H r ↔ ∃ v, hA H b2 0 u3 = some v ∧ Runs xs sl d 111 32 [l0] [.int v, s1, s0] H r := run_iald (mo_111 31 rfl) rfl
theorem r111_32 : Runs xs sl d 111 32 [l0] [.int u2, .int u1, .ref b0] H r ↔ ∃ H1, hAw H b0 0 u1 u2 = some H1 ∧ Runs xs sl d 111 33 [l0] [] H1 r := run_iast (mo_111 32 rfl) rfl
theorem r111_33 : Runs xs sl d 111 33 [some (.ref a0)] [] H r ↔ Runs xs sl d 111 34 [some (.ref a0)] [.ref a0] H r := q_aload_n (mo_111 33 rfl) rfl rfl
theorem r111_34 : Runs xs sl d 111 34 [l0] [.ref b0] H r ↔ ∃ v, hO H b0 5 0 = some v ∧ Runs xs sl d 111 37 [l0] [v] H r := q_getf (mo_111 34 rfl) mow_111 rfl rfl
theorem r111_37 : Runs xs sl d 111 37 [l0] [.ref b0] H r ↔ ∃ v, hO H b0 8 11 = some v ∧ Runs xs sl d 111 40 [l0] [v] H r := q_getf (mo_111 37 rfl) mow_111 rfl rfl
theorem r111_40 : Runs xs sl d 111 40 [some (.ref a0)] [s0] H r ↔ Runs xs sl d 111 41 [some (.ref a0)] [.ref a0, s0] H r := q_aload_n (mo_111 40 rfl) rfl rfl
theorem r111_41 : Runs xs sl d 111 41 [l0] [.ref b1, s0] H r ↔ ∃ v, hO H b1 5 0 = some v ∧ Runs xs sl d 111 44 [l0] [v, s0] H r := q_getf (mo_111 41 rfl) mow_111 rfl rfl
theorem r111_44 : Runs xs sl d 111 44 [l0] [.ref b1, s0] H r ↔ ∃ v, hO H b1 8 4 = some v ∧ Runs xs sl d 111 47 [l0] [v, s0] H r := q_getf (mo_111 44 rfl) mow_111 rfl rfl
theorem r111_47 : Runs xs sl d 111 47 [some (.ref a0)] [s1, s0] H r ↔ Runs xs sl d 111 48 [some (.ref a0)] [.ref a0, s1, s0] H r := q_aload_n (mo_111 47 rfl) rfl rfl
theorem r111_48 : Runs xs sl d 111 48 [l0] [.ref b2, s1, s0] H r ↔ ∃ v, hO H b2 5 5 = some v ∧ Runs xs sl d 111 51 [l0] [v, s1, s0] H r := q_getf (mo_111 48 rfl) mow_111 rfl rfl
theorem r111_51 : Runs xs sl d 111 51 [l0] [s2, s1, s0] H r ↔ Runs xs sl d 111 52 [l0] [.int 1, s2, s1, s0] H r := q_iconst (mo_111 51 rfl) rfl rfl
theorem r111_52 : Runs xs sl d 111 52 [l0] [.int u3, .ref b2, s1, s0] H r ↔ ∃ v, hA H b2 0 u3 = some v ∧ Runs xs sl d 111 53 [l0] [.int v, s1, s0] H r := run_iald (mo_111 52 rfl) rfl
theorem r111_53 : Runs xs sl d 111 53 [l0] [.int u2, .int u1, .ref b0] H r ↔ ∃ H1, hAw H b0 0 u1 u2 = some H1 ∧ Runs xs sl d 111 54 [l0] [] H1 r := run_iast (mo_111 53 rfl) rfl
theorem r111_54 : Runs xs sl d 111 54 [some (.ref a0)] [] H r ↔ Runs xs sl d 111 55 [some (.ref a0)] [.ref a0] H r := q_aload_n (mo_111 54 rfl) rfl rfl
theorem r111_55 : Runs xs sl d 111 55 [l0] [.ref b0] H r ↔ ∃ v, hO H b0 5 0 = some v ∧ Runs xs sl d 111 58 [l0] [v] H r := q_getf (mo_111 55 rfl) mow_111 rfl rfl
theorem r111_58 : Runs xs sl d 111 58 [l0] [.ref b0] H r ↔ Runs xs sl d 111 59 [l0] [.ref b0, .ref b0] H r := q_dup (mo_111 58 rfl) rfl rfl
theorem r111_59 : Runs xs sl d 111 59 [l0] [.ref b1, s0] H r ↔ ∃ v, hO H b1 8 4 = some v ∧ Runs xs sl d 111 62 [l0] [v, s0] H r := q_getf (mo_111 59 rfl) mow_111 rfl rfl
theorem r111_62 : Runs xs sl d 111 62 [l0] [s1, s0] H r ↔ Runs xs sl d 111 63 [l0] [.int 1, s1, s0] H r := q_iconst (mo_111 62 rfl) rfl rfl
theorem r111_63 : Runs xs sl d 111 63 [l0] [.int u2, .int u1, s0] H r ↔ Runs xs sl d 111 64 [l0] [.int (u1 + u2), s0] H r := q_iadd (mo_111 63 rfl) rfl
theorem r111_64 : Runs xs sl d 111 64 [l0] [.int u1, .ref b0] H r ↔ ∃ H1, hOw H b0 8 4 (.int u1) = some H1 ∧ Runs xs sl d 111 67 [l0] [] H1 r := q_putf (mo_111 64 rfl) mow_111 rfl rfl (by decide +kernel) rfl
theorem r111_67 : Runs xs sl d 111 67 [l0] [] H r ↔ r = (none, H) := q_ret (mo_111 67 rfl) mrt_111
theorem r112_0 : Runs xs sl d 112 0 [some (.ref a0), l1] [] H r ↔ Runs xs sl d 112 1 [some (.ref a0), l1] [.ref a0] H r := q_aload_n (mo_112 0 rfl) rfl rfl
theorem r112_1 : Runs xs sl d 112 1 [some (.ref a0), l1] [s0] H r ↔ Runs xs sl d 112 2 [some (.ref a0), l1] [.ref a0, s0] H r := q_aload_n (mo_112 1 rfl) rfl rfl
theorem r112_2 : Runs xs sl d 112 2 [l0, l1] [.ref b1, s0] H r ↔ ∃ v, hO H b1 5 5 = some v ∧ Runs xs sl d 112 5 [l0, l1] [v, s0] H r := q_getf (mo_112 2 rfl) mow_112 rfl rfl
theorem r112_5 : Runs xs sl d 112 5 [l0, l1] [s1, s0] H r ↔ Runs xs sl d 112 6 [l0, l1] [.int 1, s1, s0] H r := q_iconst (mo_112 5 rfl) rfl rfl
theorem r112_6 : Runs xs sl d 112 6 [l0, l1] [.int u2, .ref b1, s0] H r ↔ ∃ v, hA H b1 0 u2 = some v ∧ Runs xs sl d 112 7 [l0, l1] [.int v, s0] H r := run_iald (mo_112 6 rfl) rfl
theorem r112_7 (hc : hC H b0 = some 5) : Runs xs sl (d + 1) 112 7 [l0, l1] [.int u1, .ref b0] H r ↔ ∃ v H1, Runs xs sl d 108 0 [some (.ref b0), some (.int u1)] [] H (v, H1) ∧ Runs xs sl (d + 1) 112 10 [l0, l1] (v.toList ++ []) H1 r := q_callV (M' := 108) (as := [.int u1]) (rest := []) (mo_112 7 rfl) mow_112 rfl mcs_108 mmx_108 rfl (Nat.le_of_ble_eq_true rfl) (Nat.le_of_ble_eq_true rfl) rfl rfl hc
theorem r112_10 : Runs xs sl d 112 10 [some (.ref a0), l1] [] H r ↔ Runs xs sl d 112 11 [some (.ref a0), l1] [.ref a0] H r := q_aload_n (mo_112 10 rfl) rfl rfl
theorem r112_11 : Runs xs sl d 112 11 [l0, l1] [.ref b0] H r ↔ ∃ v, hO H b0 5 2 = some v ∧ Runs xs sl d 112 14 [l0, l1] [v] H r := q_getf (mo_112 11 rfl) mow_112 rfl rfl
theorem r112_14 : Runs xs sl d 112 14 [l0, l1] [.ref b0] H r ↔ ∃ v, hO H b0 4 2 = some v ∧ Runs xs sl d 112 17 [l0, l1] [v] H r := q_getf (mo_112 14 rfl) mow_112 rfl rfl
theorem r112_17 : Runs xs sl d 112 17 [l0, l1] [s0] H r ↔ Runs xs sl d 112 19 [l0, l1] [.int 12, s0] H r := q_bipush (mo_112 17 rfl) rfl rfl
theorem r112_19 : Runs xs sl d 112 19 [l0, l1] [.int u1, .int u0] H r ↔ if u1 ≤ u0 then Runs xs sl d 112 92 [l0, l1] [] H r else Runs xs sl d 112 22 [l0, l1] [] H r := q_icmp_ge (mo_112 19 rfl) rfl rfl
theorem r112_22 : Runs xs sl d 112 22 [some (.ref a0), l1] [] H r ↔ Runs xs sl d 112 23 [some (.ref a0), l1] [.ref a0] H r := q_aload_n (mo_112 22 rfl) rfl rfl
theorem r112_23 : Runs xs sl d 112 23 [l0, l1] [.ref b0] H r ↔ ∃ v, hO H b0 5 2 = some v ∧ Runs xs sl d 112 26 [l0, l1] [v] H r := q_getf (mo_112 23 rfl) mow_112 rfl rfl
theorem r112_26 : Runs xs sl d 112 26 [l0, l1] [.ref b0] H r ↔ ∃ v, hO H b0 4 2 = some v ∧ Runs xs sl d 112 29 [l0, l1] [v] H r := q_getf (mo_112 26 rfl) mow_112 rfl rfl
theorem r112_29 : Runs xs sl d 112 29 [l0, l1] [s0] H r ↔ Runs xs sl d 112 30 [l0, l1] [.int 3, s0] H r := q_iconst (mo_112 29 rfl) rfl rfl
theorem r112_30 : Runs xs sl d 112 30 [l0, l1] [.int u1, .int u0] H r ↔ Runs xs sl d 112 31 [l0, l1] [.int (u0 * u1)] H r := q_imul (mo_112 30 rfl) rfl
theorem r112_31 : Runs xs sl d 112 31 [some (.ref a0), l1] [.int u0] H r ↔ Runs xs sl d 112 32 [some (.ref a0), some (.int u0)] [] H r := q_istore_n (mo_112 31 rfl) (Nat.le_of_ble_eq_true rfl) rfl rfl
theorem r112_31_1 : Runs xs sl d 112 31 [some .null, l1] [.int u0] H r ↔ Runs xs sl d 112 32 [some .null, some (.int u0)] [] H r := q_istore_n (mo_112 31 rfl) (Nat.le_of_ble_eq_true rfl) rfl rfl
theorem r112_32 : Runs xs sl d 112 32 [some (.ref a0), l1] [] H r ↔ Runs xs sl d 112 33 [some (.ref a0), l1] [.ref a0] H r := q_aload_n (mo_112 32 rfl) rfl rfl
theorem r112_33 : Runs xs sl d 112 33 [l0, l1] [.ref b0] H r ↔ ∃ v, hO H b0 5 2 = some v ∧ Runs xs sl d 112 36 [l0, l1] [v] H r := q_getf (mo_112 33 rfl) mow_112 rfl rfl
theorem r112_36 : Runs xs sl d 112 36 [l0, l1] [.ref b0] H r ↔ ∃ v, hO H b0 4 3 = some v ∧ Runs xs sl d 112 39 [l0, l1] [v] H r := q_getf (mo_112 36 rfl) mow_112 rfl rfl
theorem r112_39 : Runs xs sl d 112 39 [l0, some (.int i1)] [s0] H r ↔ Runs xs sl d 112 40 [l0, some (.int i1)] [.int i1, s0] H r := q_iload_n (mo_112 39 rfl) rfl rfl
theorem r112_40 : Runs xs sl d 112 40 [some (.ref a0), l1] [s1, s0] H r ↔ Runs xs sl d 112 41 [some (.ref a0), l1] [.ref a0, s1, s0] H r := q_aload_n (mo_112 40 rfl) rfl rfl
theorem r112_41 : Runs xs sl d 112 41 [l0, l1] [.ref b2, s1, s0] H r ↔ ∃ v, hO H b2 5 5 = some v ∧ Runs xs sl d 112 44 [l0, l1] [v, s1, s0] H r := q_getf (mo_112 41 rfl) mow_112 rfl rfl
theorem r112_44 : Runs xs sl d 112 44 [l0, l1] [s2, s1, s0] H r ↔ Runs xs sl d 112 45 [l0, l1] [.int 0, s2, s1, s0] H r := q_iconst (mo_112 44 rfl) rfl rfl
theorem r112_45 : Runs xs sl d 112 45 [l0, l1] [.int u3, .ref b2, s1, s0] H r ↔ ∃ v, hA H b2 0 u3 = some v ∧ Runs xs sl d 112 46 [l0, l1] [.int v, s1, s0] H r := run_iald (mo_112 45 rfl) rfl
theorem r112_46 : Runs xs sl d 112 46 [l0, l1] [.int u2, .int u1, .ref b0] H r ↔ ∃ H1, hAw H b0 0 u1 u2 = some H1 ∧ Runs xs sl d 112 47 [l0, l1] [] H1 r := run_iast (mo_112 46 rfl) rfl
theorem r112_47 : Runs xs sl d 112 47 [some (.ref a0), l1] [] H r ↔ Runs xs sl d 112 48 [some (.ref a0), l1] [.ref a0] H r := q_aload_n (mo_112 47 rfl) rfl rfl
theorem r112_48 : Runs xs sl d 112 48 [l0, l1] [.ref b0] H r ↔ ∃ v, hO H b0 5 2 = some v ∧ Runs xs sl d 112 51 [l0, l1] [v] H r := q_getf (mo_112 48 rfl) mow_112 rfl rfl
theorem r112_51 : Runs xs sl d 112 51 [l0, l1] [.ref b0] H r ↔ ∃ v, hO H b0 4 3 = some v ∧ Runs xs sl d 112 54 [l0, l1] [v] H r := q_getf (mo_112 51 rfl) mow_112 rfl rfl
theorem r112_54 : Runs xs sl d 112 54 [l0, some (.int i1)] [s0] H r ↔ Runs xs sl d 112 55 [l0, some (.int i1)] [.int i1, s0] H r := q_iload_n (mo_112 54 rfl) rfl rfl
theorem r112_55 : Runs xs sl d 112 55 [l0, l1] [s1, s0] H r ↔ Runs xs sl d 112 56 [l0, l1] [.int 1, s1, s0] H r := q_iconst (mo_112 55 rfl) rfl rfl
theorem r112_56 : Runs xs sl d 112 56 [l0, l1] [.int u2, .int u1, s0] H r ↔ Runs xs sl d 112 57 [l0, l1] [.int (u1 + u2), s0] H r := q_iadd (mo_112 56 rfl) rfl
theorem r112_57 : Runs xs sl d 112 57 [some (.ref a0), l1] [s1, s0] H r ↔ Runs xs sl d 112 58 [some (.ref a0), l1] [.ref a0, s1, s0] H r := q_aload_n (mo_112 57 rfl) rfl rfl
theorem r112_58 : Runs xs sl d 112 58 [l0, l1] [.ref b2, s1, s0] H r ↔ ∃ v, hO H b2 5 5 = some v ∧ Runs xs sl d 112 61 [l0, l1] [v, s1, s0] H r := q_getf (mo_112 58 rfl) mow_112 rfl rfl
theorem r112_61 : Runs xs sl d 112 61 [l0, l1] [s2, s1, s0] H r ↔ Runs xs sl d 112 62 [l0, l1] [.int 1, s2, s1, s0] H r := q_iconst (mo_112 61 rfl) rfl rfl
theorem r112_62 : Runs xs sl d 112 62 [l0, l1] [.int u3, .ref b2, s1, s0] H r ↔ ∃ v, hA H b2 0 u3 = some v ∧ Runs xs sl d 112 63 [l0, l1] [.int v, s1, s0] H r := run_iald (mo_112 62 rfl) rfl
theorem r112_63 : Runs xs sl d 112 63 [l0, l1] [.int u2, .int u1, .ref b0] H r ↔ ∃ H1, hAw H b0 0 u1 u2 = some H1 ∧ Runs xs sl d 112 64 [l0, l1] [] H1 r := run_iast (mo_112 63 rfl) rfl
theorem r112_64 : Runs xs sl d 112 64 [some (.ref a0), l1] [] H r ↔ Runs xs sl d 112 65 [some (.ref a0), l1] [.ref a0] H r := q_aload_n (mo_112 64 rfl) rfl rfl
theorem r112_65 : Runs xs sl d 112 65 [l0, l1] [.ref b0] H r ↔ ∃ v, hO H b0 5 2 = some v ∧ Runs xs sl d 112 68 [l0, l1] [v] H r := q_getf (mo_112 65 rfl) mow_112 rfl rfl
theorem r112_68 : Runs xs sl d 112 68 [l0, l1] [.ref b0] H r ↔ ∃ v, hO H b0 4 3 = some v ∧ Runs xs sl d 112 71 [l0, l1] [v] H r := q_getf (mo_112 68 rfl) mow_112 rfl rfl
theorem r112_71 : Runs xs sl d 112 71 [l0, some (.int i1)] [s0] H r ↔ Runs xs sl d 112 72 [l0, some (.int i1)] [.int i1, s0] H r := q_iload_n (mo_112 71 rfl) rfl rfl
theorem r112_72 : Runs xs sl d 112 72 [l0, l1] [s1, s0] H r ↔ Runs xs sl d 112 73 [l0, l1] [.int 2, s1, s0] H r := q_iconst (mo_112 72 rfl) rfl rfl
theorem r112_73 : Runs xs sl d 112 73 [l0, l1] [.int u2, .int u1, s0] H r ↔ Runs xs sl d 112 74 [l0, l1] [.int (u1 + u2), s0] H r := q_iadd (mo_112 73 rfl) rfl
theorem r112_74 : Runs xs sl d 112 74 [some (.ref a0), l1] [s1, s0] H r ↔ Runs xs sl d 112 75 [some (.ref a0), l1] [.ref a0, s1, s0] H r := q_aload_n (mo_112 74 rfl) rfl rfl
theorem r112_75 (hc : hC H b2 = some 5) : Runs xs sl (d + 1) 112 75 [l0, l1] [.ref b2, .int u1, .ref b0] H r ↔ ∃ v H1, Runs xs sl d 109 0 [some (.ref b2)] [] H (v, H1) ∧ Runs xs sl (d + 1) 112 78 [l0, l1] (v.toList ++ [.int u1, .ref b0]) H1 r := q_callV (M' := 109) (as := []) (rest := [.int u1, .ref b0]) (mo_112 75 rfl) mow_112 rfl mcs_109 mmx_109 rfl (Nat.le_of_ble_eq_true rfl) (Nat.le_of_ble_eq_true rfl) rfl rfl hc
theorem r112_78 : Runs xs sl d 112 78 [l0, l1] [.int u2, .int u1, .ref b0] H r ↔ ∃ H1, hAw H b0 0 u1 u2 = some H1 ∧ Runs xs sl d 112 79 [l0, l1] [] H1 r := run_iast (mo_112 78 rfl) rfl
theorem r112_79 : Runs xs sl d 112 79 [some (.ref a0), l1] [] H r ↔ Runs xs sl d 112 80 [some (.ref a0), l1] [.ref a0] H r := q_aload_n (mo_112 79 rfl) rfl rfl
theorem r112_80 : Runs xs sl d 112 80 [l0, l1] [.ref b0] H r ↔ ∃ v, hO H b0 5 2 = some v ∧ Runs xs sl d 112 83 [l0, l1] [v] H r := q_getf (mo_112 80 rfl) mow_112 rfl rfl
theorem r112_83 : Runs xs sl d 112 83 [l0, l1] [.ref b0] H r ↔ Runs xs sl d 112 84 [l0, l1] [.ref b0, .ref b0] H r := q_dup (mo_112 83 rfl) rfl rfl
theorem r112_84 : Runs xs sl d 112 84 [l0, l1] [.ref b1, s0] H r ↔ ∃ v, hO H b1 4 2 = some v ∧ Runs xs sl d 112 87 [l0, l1] [v, s0] H r := q_getf (mo_112 84 rfl) mow_112 rfl rfl
theorem r112_87 : Runs xs sl d 112 87 [l0, l1] [s1, s0] H r ↔ Runs xs sl d 112 88 [l0, l1] [.int 1, s1, s0] H r := q_iconst (mo_112 87 rfl) rfl rfl
theorem r112_88 : Runs xs sl d 112 88 [l0, l1] [.int u2, .int u1, s0] H r ↔ Runs xs sl d 112 89 [l0, l1] [.int (u1 + u2), s0] H r := q_iadd (mo_112 88 rfl) rfl
theorem r112_89 : Runs xs sl d 112 89 [l0, l1] [.int u1, .ref b0] H r ↔ ∃ H1, hOw H b0 4 2 (.int u1) = some H1 ∧ Runs xs sl d 112 92 [l0, l1] [] H1 r := q_putf (mo_112 89 rfl) mow_112 rfl rfl (by decide +kernel) rfl
theorem r112_92 : Runs xs sl d 112 92 [l0, l1] [] H r ↔ r = (none, H) := q_ret (mo_112 92 rfl) mrt_112
theorem r113_0 : Runs xs sl d 113 0 [some (.ref a0), l1, l2, l3] [] H r ↔ Runs xs sl d 113 1 [some (.ref a0), l1, l2, l3] [.ref a0] H r := q_aload_n (mo_113 0 rfl) rfl rfl
theorem r113_1 : Runs xs sl d 113 1 [l0, l1, l2, l3] [.ref b0] H r ↔ ∃ v, hO H b0 5 1 = some v ∧ Runs xs sl d 113 4 [l0, l1, l2, l3] [v] H r := q_getf (mo_113 1 rfl) mow_113 rfl rfl
theorem r113_4 : Runs xs sl d 113 4 [l0, l1, l2, l3] [.ref b0] H r ↔ ∃ v, hO H b0 0 0 = some v ∧ Runs xs sl d 113 7 [l0, l1, l2, l3] [v] H r := q_getf (mo_113 4 rfl) mow_113 rfl rfl
theorem r113_7 : Runs xs sl d 113 7 [l0, l1, l2, l3] [s0] H r ↔ Runs xs sl d 113 9 [l0, l1, l2, l3] [.int 40, s0] H r := q_bipush (mo_113 7 rfl) rfl rfl
theorem r113_9 : Runs xs sl d 113 9 [l0, l1, l2, l3] [.int u1, .int u0] H r ↔ if u0 < u1 then Runs xs sl d 113 13 [l0, l1, l2, l3] [] H r else Runs xs sl d 113 12 [l0, l1, l2, l3] [] H r := q_icmp_lt (mo_113 9 rfl) rfl rfl
theorem r113_12 : Runs xs sl d 113 12 [l0, l1, l2, l3] [] H r ↔ r = (none, H) := q_ret (mo_113 12 rfl) mrt_113
theorem r113_13 : Runs xs sl d 113 13 [some (.ref a0), l1, l2, l3] [] H r ↔ Runs xs sl d 113 14 [some (.ref a0), l1, l2, l3] [.ref a0] H r := q_aload_n (mo_113 13 rfl) rfl rfl
theorem r113_14 : Runs xs sl d 113 14 [l0, l1, l2, l3] [.ref b0] H r ↔ ∃ v, hO H b0 5 1 = some v ∧ Runs xs sl d 113 17 [l0, l1, l2, l3] [v] H r := q_getf (mo_113 14 rfl) mow_113 rfl rfl
theorem r113_17 : Runs xs sl d 113 17 [l0, l1, l2, l3] [.ref b0] H r ↔ ∃ v, hO H b0 0 0 = some v ∧ Runs xs sl d 113 20 [l0, l1, l2, l3] [v] H r := q_getf (mo_113 17 rfl) mow_113 rfl rfl
theorem r113_20 : Runs xs sl d 113 20 [l0, l1, l2, l3] [s0] H r ↔ Runs xs sl d 113 21 [l0, l1, l2, l3] [.int 4, s0] H r := q_iconst (mo_113 20 rfl) rfl rfl
theorem r113_21 : Runs xs sl d 113 21 [l0, l1, l2, l3] [.int u1, .int u0] H r ↔ Runs xs sl d 113 22 [l0, l1, l2, l3] [.int (u0 * u1)] H r := q_imul (mo_113 21 rfl) rfl
theorem r113_22 : Runs xs sl d 113 22 [l0, some (.int i1), l2, l3] [.int u0] H r ↔ Runs xs sl d 113 23 [l0, some (.int i1), some (.int u0), l3] [] H r := q_istore_n (mo_113 22 rfl) (Nat.le_of_ble_eq_true rfl) rfl rfl
theorem r113_23 : Runs xs sl d 113 23 [l0, some (.int i1), l2, l3] [] H r ↔ Runs xs sl d 113 24 [l0, some (.int i1), l2, l3] [.int i1] H r := q_iload_n (mo_113 23 rfl) rfl rfl
theorem r113_24 : Runs xs sl d 113 24 [l0, l1, l2, l3] [s0] H r ↔ Runs xs sl d 113 26 [l0, l1, l2, l3] [.int 10, s0] H r := q_bipush (mo_113 24 rfl) rfl rfl
theorem r113_26 : Runs xs sl d 113 26 [l0, l1, l2, l3] [.int u1, .int u0] H r ↔ if u0 = u1 then Runs xs sl d 113 33 [l0, l1, l2, l3] [] H r else Runs xs sl d 113 29 [l0, l1, l2, l3] [] H r := q_icmp_eq (mo_113 26 rfl) rfl rfl
theorem r113_29 : Runs xs sl d 113 29 [l0, l1, l2, l3] [] H r ↔ Runs xs sl d 113 30 [l0, l1, l2, l3] [.int 1] H r := q_iconst (mo_113 29 rfl) rfl rfl
theorem r113_30 : Runs xs sl d 113 30 [l0, l1, l2, l3] [s0] H r ↔ Runs xs sl d 113 34 [l0, l1, l2, l3] [s0] H r := q_goto (mo_113 30 rfl) rfl
theorem r113_33 : Runs xs sl d 113 33 [l0, l1, l2, l3] [] H r ↔ Runs xs sl d 113 34 [l0, l1, l2, l3] [.int 0] H r := q_iconst (mo_113 33 rfl) rfl rfl
theorem r113_34 : Runs xs sl d 113 34 [l0, l1, some (.int i2), l3] [.int u0] H r ↔ Runs xs sl d 113 35 [l0, l1, some (.int i2), some (.int u0)] [] H r := q_istore_n (mo_113 34 rfl) (Nat.le_of_ble_eq_true rfl) rfl rfl
theorem r113_35 : Runs xs sl d 113 35 [some (.ref a0), l1, l2, l3] [] H r ↔ Runs xs sl d 113 36 [some (.ref a0), l1, l2, l3] [.ref a0] H r := q_aload_n (mo_113 35 rfl) rfl rfl
theorem r113_36 : Runs xs sl d 113 36 [l0, l1, l2, l3] [.ref b0] H r ↔ ∃ v, hO H b0 5 1 = some v ∧ Runs xs sl d 113 39 [l0, l1, l2, l3] [v] H r := q_getf (mo_113 36 rfl) mow_113 rfl rfl
theorem r113_39 : Runs xs sl d 113 39 [l0, l1, l2, l3] [.ref b0] H r ↔ ∃ v, hO H b0 0 1 = some v ∧ Runs xs sl d 113 42 [l0, l1, l2, l3] [v] H r := q_getf (mo_113 39 rfl) mow_113 rfl rfl
theorem r113_42 : Runs xs sl d 113 42 [l0, l1, some (.int i2), l3] [s0] H r ↔ Runs xs sl d 113 43 [l0, l1, some (.int i2), l3] [.int i2, s0] H r := q_iload_n (mo_113 42 rfl) rfl rfl
theorem r113_43 : Runs xs sl d 113 43 [l0, some (.int i1), l2, l3] [s1, s0] H r ↔ Runs xs sl d 113 44 [l0, some (.int i1), l2, l3] [.int i1, s1, s0] H r := q_iload_n (mo_113 43 rfl) rfl rfl
theorem r113_44 : Runs xs sl d 113 44 [l0, l1, l2, l3] [s2, s1, s0] H r ↔ Runs xs sl d 113 45 [l0, l1, l2, l3] [.int 5, s2, s1, s0] H r := q_iconst (mo_113 44 rfl) rfl rfl
theorem r113_45 : Runs xs sl d 113 45 [l0, l1, l2, l3] [.int u3, .int u2, s1, s0] H r ↔ Runs xs sl d 113 46 [l0, l1, l2, l3] [.int (u2 - u3), s1, s0] H r := q_isub (mo_113 45 rfl) rfl
theorem r113_46 : Runs xs sl d 113 46 [l0, l1, l2, l3] [.int u2, .int u1, .ref b0] H r ↔ ∃ H1, hAw H b0 0 u1 u2 = some H1 ∧ Runs xs sl d 113 47 [l0, l1, l2, l3] [] H1 r := run_iast (mo_113 46 rfl) rfl
theorem r113_47 : Runs xs sl d 113 47 [some (.ref a0), l1, l2, l3] [] H r ↔ Runs xs sl d 113 48 [some (.ref a0), l1, l2, l3] [.ref a0] H r := q_aload_n (mo_113 47 rfl) rfl rfl
theorem r113_48 : Runs xs sl d 113 48 [l0, l1, l2, l3] [.ref b0] H r ↔ ∃ v, hO H b0 5 1 = some v ∧ Runs xs sl d 113 51 [l0, l1, l2, l3] [v] H r := q_getf (mo_113 48 rfl) mow_113 rfl rfl
theorem r113_51 : Runs xs sl d 113 51 [l0, l1, l2, l3] [.ref b0] H r ↔ ∃ v, hO H b0 0 1 = some v ∧ Runs xs sl d 113 54 [l0, l1, l2, l3] [v] H r := q_getf (mo_113 51 rfl) mow_113 rfl rfl
theorem r113_54 : Runs xs sl d 113 54 [l0, l1, some (.int i2), l3] [s0] H r ↔ Runs xs sl d 113 55 [l0, l1, some (.int i2), l3] [.int i2, s0] H r := q_iload_n (mo_113 54 rfl) rfl rfl
theorem r113_55 : Runs xs sl d 113 55 [l0, l1, l2, l3] [s1, s0] H r ↔ Runs xs sl d 113 56 [l0, l1, l2, l3] [.int 1, s1, s0] H r := q_iconst (mo_113 55 rfl) rfl rfl
theorem r113_56 : Runs xs sl d 113 56 [l0, l1, l2, l3] [.int u2, .int u1, s0] H r ↔ Runs xs sl d 113 57 [l0, l1, l2, l3] [.int (u1 + u2), s0] H r := q_iadd (mo_113 56 rfl) rfl
theorem r113_57 : Runs xs sl d 113 57 [l0, l1, l2, some (.int i3)] [s1, s0] H r ↔ Runs xs sl d 113 58 [l0, l1, l2, some (.int i3)] [.int i3, s1, s0] H r := q_iload_n (mo_113 57 rfl) rfl rfl
theorem r113_58 : Runs xs sl d 113 58 [l0, l1, l2, l3] [.int u2, s1, s0] H r ↔ if u2 = 0 then Runs xs sl d 113 70 [l0, l1, l2, l3] [s1, s0] H r else Runs xs sl d 113 61 [l0, l1, l2, l3] [s1, s0] H r := q_if_eq (mo_113 58 rfl) rfl rfl
theorem r113_61 : Runs xs sl d 113 61 [some (.ref a0), l1, l2, l3] [s1, s0] H r ↔ Runs xs sl d 113 62 [some (.ref a0), l1, l2, l3] [.ref a0, s1, s0] H r := q_aload_n (mo_113 61 rfl) rfl rfl
theorem r113_62 : Runs xs sl d 113 62 [l0, l1, l2, l3] [.ref b2, s1, s0] H r ↔ ∃ v, hO H b2 5 5 = some v ∧ Runs xs sl d 113 65 [l0, l1, l2, l3] [v, s1, s0] H r := q_getf (mo_113 62 rfl) mow_113 rfl rfl
theorem r113_65 : Runs xs sl d 113 65 [l0, l1, l2, l3] [s2, s1, s0] H r ↔ Runs xs sl d 113 66 [l0, l1, l2, l3] [.int 0, s2, s1, s0] H r := q_iconst (mo_113 65 rfl) rfl rfl
theorem r113_66 : Runs xs sl d 113 66 [l0, l1, l2, l3] [.int u3, .ref b2, s1, s0] H r ↔ ∃ v, hA H b2 0 u3 = some v ∧ Runs xs sl d 113 67 [l0, l1, l2, l3] [.int v, s1, s0] H r := run_iald (mo_113 66 rfl) rfl
theorem r113_67 : Runs xs sl d 113 67 [l0, l1, l2, l3] [s2, s1, s0] H r ↔ Runs xs sl d 113 72 [l0, l1, l2, l3] [s2, s1, s0] H r := q_goto (mo_113 67 rfl) rfl
theorem r113_70 : Runs xs sl d 113 70 [l0, l1, l2, l3] [s1, s0] H r ↔ Runs xs sl d 113 72 [l0, l1, l2, l3] [.int (-8), s1, s0] H r := q_bipush (mo_113 70 rfl) rfl rfl
theorem r113_72 : Runs xs sl d 113 72 [l0, l1, l2, l3] [.int u2, .int u1, .ref b0] H r ↔ ∃ H1, hAw H b0 0 u1 u2 = some H1 ∧ Runs xs sl d 113 73 [l0, l1, l2, l3] [] H1 r := run_iast (mo_113 72 rfl) rfl
theorem r113_73 : Runs xs sl d 113 73 [some (.ref a0), l1, l2, l3] [] H r ↔ Runs xs sl d 113 74 [some (.ref a0), l1, l2, l3] [.ref a0] H r := q_aload_n (mo_113 73 rfl) rfl rfl
theorem r113_74 : Runs xs sl d 113 74 [l0, l1, l2, l3] [.ref b0] H r ↔ ∃ v, hO H b0 5 1 = some v ∧ Runs xs sl d 113 77 [l0, l1, l2, l3] [v] H r := q_getf (mo_113 74 rfl) mow_113 rfl rfl
theorem r113_77 : Runs xs sl d 113 77 [l0, l1, l2, l3] [.ref b0] H r ↔ ∃ v, hO H b0 0 1 = some v ∧ Runs xs sl d 113 80 [l0, l1, l2, l3] [v] H r := q_getf (mo_113 77 rfl) mow_113 rfl rfl
theorem r113_80 : Runs xs sl d 113 80 [l0, l1, some (.int i2), l3] [s0] H r ↔ Runs xs sl d 113 81 [l0, l1, some (.int i2), l3] [.int i2, s0] H r := q_iload_n (mo_113 80 rfl) rfl rfl
theorem r113_81 : Runs xs sl d 113 81 [l0, l1, l2, l3] [s1, s0] H r ↔ Runs xs sl d 113 82 [l0, l1, l2, l3] [.int 2, s1, s0] H r := q_iconst (mo_113 81 rfl) rfl rfl
theorem r113_82 : Runs xs sl d 113 82 [l0, l1, l2, l3] [.int u2, .int u1, s0] H r ↔ Runs xs sl d 113 83 [l0, l1, l2, l3] [.int (u1 + u2), s0] H r := q_iadd (mo_113 82 rfl) rfl
theorem r113_83 : Runs xs sl d 113 83 [l0, l1, l2, some (.int i3)] [s1, s0] H r ↔ Runs xs sl d 113 84 [l0, l1, l2, some (.int i3)] [.int i3, s1, s0] H r := q_iload_n (mo_113 83 rfl) rfl rfl
theorem r113_84 : Runs xs sl d 113 84 [l0, l1, l2, l3] [.int u2, s1, s0] H r ↔ if u2 = 0 then Runs xs sl d 113 96 [l0, l1, l2, l3] [s1, s0] H r else Runs xs sl d 113 87 [l0, l1, l2, l3] [s1, s0] H r := q_if_eq (mo_113 84 rfl) rfl rfl
theorem r113_87 : Runs xs sl d 113 87 [some (.ref a0), l1, l2, l3] [s1, s0] H r ↔ Runs xs sl d 113 88 [some (.ref a0), l1, l2, l3] [.ref a0, s1, s0] H r := q_aload_n (mo_113 87 rfl) rfl rfl
theorem r113_88 : Runs xs sl d 113 88 [l0, l1, l2, l3] [.ref b2, s1, s0] H r ↔ ∃ v, hO H b2 5 5 = some v ∧ Runs xs sl d 113 91 [l0, l1, l2, l3] [v, s1, s0] H r := q_getf (mo_113 88 rfl) mow_113 rfl rfl
theorem r113_91 : Runs xs sl d 113 91 [l0, l1, l2, l3] [s2, s1, s0] H r ↔ Runs xs sl d 113 92 [l0, l1, l2, l3] [.int 1, s2, s1, s0] H r := q_iconst (mo_113 91 rfl) rfl rfl
theorem r113_92 : Runs xs sl d 113 92 [l0, l1, l2, l3] [.int u3, .ref b2, s1, s0] H r ↔ ∃ v, hA H b2 0 u3 = some v ∧ Runs xs sl d 113 93 [l0, l1, l2, l3] [.int v, s1, s0] H r := run_iald (mo_113 92 rfl) rfl
theorem r113_93 : Runs xs sl d 113 93 [l0, l1, l2, l3] [s2, s1, s0] H r ↔ Runs xs sl d 113 98 [l0, l1, l2, l3] [s2, s1, s0] H r := q_goto (mo_113 93 rfl) rfl
theorem r113_96 : Runs xs sl d 113 96 [l0, l1, l2, l3] [s1, s0] H r ↔ Runs xs sl d 113 98 [l0, l1, l2, l3] [.int (-8), s1, s0] H r := q_bipush (mo_113 96 rfl) rfl rfl
theorem r113_98 : Runs xs sl d 113 98 [l0, l1, l2, l3] [.int u2, .int u1, .ref b0] H r ↔ ∃ H1, hAw H b0 0 u1 u2 = some H1 ∧ Runs xs sl d 113 99 [l0, l1, l2, l3] [] H1 r := run_iast (mo_113 98 rfl) rfl
theorem r113_99 : Runs xs sl d 113 99 [some (.ref a0), l1, l2, l3] [] H r ↔ Runs xs sl d 113 100 [some (.ref a0), l1, l2, l3] [.ref a0] H r := q_aload_n (mo_113 99 rfl) rfl rfl
theorem r113_100 : Runs xs sl d 113 100 [l0, l1, l2, l3] [.ref b0] H r ↔ ∃ v, hO H b0 5 1 = some v ∧ Runs xs sl d 113 103 [l0, l1, l2, l3] [v] H r := q_getf (mo_113 100 rfl) mow_113 rfl rfl
theorem r113_103 : Runs xs sl d 113 103 [l0, l1, l2, l3] [.ref b0] H r ↔ ∃ v, hO H b0 0 1 = some v ∧ Runs xs sl d 113 106 [l0, l1, l2, l3] [v] H r := q_getf (mo_113 103 rfl) mow_113 rfl rfl
theorem r113_106 : Runs xs sl d 113 106 [l0, l1, some (.int i2), l3] [s0] H r ↔ Runs xs sl d 113 107 [l0, l1, some (.int i2), l3] [.int i2, s0] H r := q_iload_n (mo_113 106 rfl) rfl rfl
theorem r113_107 : Runs xs sl d 113 107 [l0, l1, l2, l3] [s1, s0] H r ↔ Runs xs sl d 113 108 [l0, l1, l2, l3] [.int 3, s1, s0] H r := q_iconst (mo_113 107 rfl) rfl rfl
theorem r113_108 : Runs xs sl d 113 108 [l0, l1, l2, l3] [.int u2, .int u1, s0] H r ↔ Runs xs sl d 113 109 [l0, l1, l2, l3] [.int (u1 + u2), s0] H r := q_iadd (mo_113 108 rfl) rfl
theorem r113_109 : Runs xs sl d 113 109 [l0, some (.int i1), l2, l3] [s1, s0] H r ↔ Runs xs sl d 113 110 [l0, some (.int i1), l2, l3] [.int i1, s1, s0] H r := q_iload_n (mo_113 109 rfl) rfl rfl
theorem r113_110 : Runs xs sl d 113 110 [l0, l1, l2, l3] [s2, s1, s0] H r ↔ Runs xs sl d 113 111 [l0, l1, l2, l3] [.int 5, s2, s1, s0] H r := q_iconst (mo_113 110 rfl) rfl rfl
theorem r113_111 : Runs xs sl d 113 111 [l0, l1, l2, l3] [.int u3, .int u2, s1, s0] H r ↔ if ¬ u2 = u3 then Runs xs sl d 113 121 [l0, l1, l2, l3] [s1, s0] H r else Runs xs sl d 113 114 [l0, l1, l2, l3] [s1, s0] H r := q_icmp_ne (mo_113 111 rfl) rfl rfl
theorem r113_114 : Runs xs sl d 113 114 [some (.ref a0), l1, l2, l3] [s1, s0] H r ↔ Runs xs sl d 113 115 [some (.ref a0), l1, l2, l3] [.ref a0, s1, s0] H r := q_aload_n (mo_113 114 rfl) rfl rfl
theorem r113_115 (hc : hC H b2 = some 5) : Runs xs sl (d + 1) 113 115 [l0, l1, l2, l3] [.ref b2, .int u1, .ref b0] H r ↔ ∃ v H1, Runs xs sl d 109 0 [some (.ref b2)] [] H (v, H1) ∧ Runs xs sl (d + 1) 113 118 [l0, l1, l2, l3] (v.toList ++ [.int u1, .ref b0]) H1 r := q_callV (M' := 109) (as := []) (rest := [.int u1, .ref b0]) (mo_113 115 rfl) mow_113 rfl mcs_109 mmx_109 rfl (Nat.le_of_ble_eq_true rfl) (Nat.le_of_ble_eq_true rfl) rfl rfl hc
theorem r113_118 : Runs xs sl d 113 118 [l0, l1, l2, l3] [s2, s1, s0] H r ↔ Runs xs sl d 113 123 [l0, l1, l2, l3] [s2, s1, s0] H r := q_goto (mo_113 118 rfl) rfl
theorem r113_121 : Runs xs sl d 113 121 [l0, l1, l2, l3] [s1, s0] H r ↔ Runs xs sl d 113 123 [l0, l1, l2, l3] [.int (-8), s1, s0] H r := q_bipush (mo_113 121 rfl) rfl rfl
theorem r113_123 : Runs xs sl d 113 123 [l0, l1, l2, l3] [.int u2, .int u1, .ref b0] H r ↔ ∃ H1, hAw H b0 0 u1 u2 = some H1 ∧ Runs xs sl d 113 124 [l0, l1, l2, l3] [] H1 r := run_iast (mo_113 123 rfl) rfl
theorem r113_124 : Runs xs sl d 113 124 [some (.ref a0), l1, l2, l3] [] H r ↔ Runs xs sl d 113 125 [some (.ref a0), l1, l2, l3] [.ref a0] H r := q_aload_n (mo_113 124 rfl) rfl rfl
theorem r113_125 : Runs xs sl d 113 125 [l0, l1, l2, l3] [.ref b0] H r ↔ ∃ v, hO H b0 5 1 = some v ∧ Runs xs sl d 113 128 [l0, l1, l2, l3] [v] H r := q_getf (mo_113 125 rfl) mow_113 rfl rfl
theorem r113_128 : Runs xs sl d 113 128 [l0, l1, l2, l3] [.ref b0] H r ↔ Runs xs sl d 113 129 [l0, l1, l2, l3] [.ref b0, .ref b0] H r := q_dup (mo_113 128 rfl) rfl rfl
theorem r113_129 : Runs xs sl d 113 129 [l0, l1, l2, l3] [.ref b1, s0] H r ↔ ∃ v, hO H b1 0 0 = some v ∧ Runs xs sl d 113 132 [l0, l1, l2, l3] [v, s0] H r := q_getf (mo_113 129 rfl) mow_113 rfl rfl
theorem r113_132 : Runs xs sl d 113 132 [l0, l1, l2, l3] [s1, s0] H r ↔ Runs xs sl d 113 133 [l0, l1, l2, l3] [.int 1, s1, s0] H r := q_iconst (mo_113 132 rfl) rfl rfl
theorem r113_133 : Runs xs sl d 113 133 [l0, l1, l2, l3] [.int u2, .int u1, s0] H r ↔ Runs xs sl d 113 134 [l0, l1, l2, l3] [.int (u1 + u2), s0] H r := q_iadd (mo_113 133 rfl) rfl
theorem r113_134 : Runs xs sl d 113 134 [l0, l1, l2, l3] [.int u1, .ref b0] H r ↔ ∃ H1, hOw H b0 0 0 (.int u1) = some H1 ∧ Runs xs sl d 113 137 [l0, l1, l2, l3] [] H1 r := q_putf (mo_113 134 rfl) mow_113 rfl rfl (by decide +kernel) rfl
theorem r113_137 : Runs xs sl d 113 137 [l0, l1, l2, l3] [] H r ↔ r = (none, H) := q_ret (mo_113 137 rfl) mrt_113
theorem r114_0 : Runs xs sl d 114 0 [some (.ref a0), l1] [] H r ↔ Runs xs sl d 114 1 [some (.ref a0), l1] [.ref a0] H r := q_aload_n (mo_114 0 rfl) rfl rfl
theorem r114_1 : Runs xs sl d 114 1 [l0, l1] [.ref b0] H r ↔ ∃ v, hO H b0 5 8 = some v ∧ Runs xs sl d 114 4 [l0, l1] [v] H r := q_getf (mo_114 1 rfl) mow_114 rfl rfl
theorem r114_4 : Runs xs sl d 114 4 [l0, l1] [.int u0] H r ↔ if ¬ u0 = 0 then Runs xs sl d 114 30 [l0, l1] [] H r else Runs xs sl d 114 7 [l0, l1] [] H r := q_if_ne (mo_114 4 rfl) rfl rfl
theorem r114_7 : Runs xs sl d 114 7 [some (.ref a0), l1] [] H r ↔ Runs xs sl d 114 8 [some (.ref a0), l1] [.ref a0] H r := q_aload_n (mo_114 7 rfl) rfl rfl
theorem r114_8 : Runs xs sl d 114 8 [l0, l1] [.ref b0] H r ↔ ∃ v, hO H b0 5 13 = some v ∧ Runs xs sl d 114 11 [l0, l1] [v] H r := q_getf (mo_114 8 rfl) mow_114 rfl rfl
theorem r114_11 : Runs xs sl d 114 11 [some (.ref a0), l1] [s0] H r ↔ Runs xs sl d 114 12 [some (.ref a0), l1] [.ref a0, s0] H r := q_aload_n (mo_114 11 rfl) rfl rfl
theorem r114_12 : Runs xs sl d 114 12 [l0, l1] [.ref b1, s0] H r ↔ ∃ v, hO H b1 5 0 = some v ∧ Runs xs sl d 114 15 [l0, l1] [v, s0] H r := q_getf (mo_114 12 rfl) mow_114 rfl rfl
theorem r114_15 : Runs xs sl d 114 15 [l0, l1] [.ref b1, s0] H r ↔ ∃ v, hO H b1 8 2 = some v ∧ Runs xs sl d 114 18 [l0, l1] [v, s0] H r := q_getf (mo_114 15 rfl) mow_114 rfl rfl
theorem r114_18 : Runs xs sl d 114 18 [l0, l1] [.int u1, .int u0] H r ↔ if u0 < u1 then Runs xs sl d 114 30 [l0, l1] [] H r else Runs xs sl d 114 21 [l0, l1] [] H r := q_icmp_lt (mo_114 18 rfl) rfl rfl
theorem r114_21 : Runs xs sl d 114 21 [some (.ref a0), l1] [] H r ↔ Runs xs sl d 114 22 [some (.ref a0), l1] [.ref a0] H r := q_aload_n (mo_114 21 rfl) rfl rfl
theorem r114_22 : Runs xs sl d 114 22 [l0, l1] [s0] H r ↔ Runs xs sl d 114 23 [l0, l1] [.int 4, s0] H r := q_iconst (mo_114 22 rfl) rfl rfl
theorem r114_23 : Runs xs sl d 114 23 [some (.ref a0), l1] [s1, s0] H r ↔ Runs xs sl d 114 24 [some (.ref a0), l1] [.ref a0, s1, s0] H r := q_aload_n (mo_114 23 rfl) rfl rfl
theorem r114_24 : Runs xs sl d 114 24 [l0, l1] [.ref b2, s1, s0] H r ↔ ∃ v, hO H b2 5 7 = some v ∧ Runs xs sl d 114 27 [l0, l1] [v, s1, s0] H r := q_getf (mo_114 24 rfl) mow_114 rfl rfl
theorem r114_27 (hc : hC H b0 = some 5) : Runs xs sl (d + 1) 114 27 [l0, l1] [.int u2, .int u1, .ref b0] H r ↔ ∃ v H1, Runs xs sl d 97 0 [some (.ref b0), some (.int u1), some (.int u2)] [] H (v, H1) ∧ Runs xs sl (d + 1) 114 30 [l0, l1] (v.toList ++ []) H1 r := q_callV (M' := 97) (as := [.int u1, .int u2]) (rest := []) (mo_114 27 rfl) mow_114 rfl mcs_97 mmx_97 rfl (Nat.le_of_ble_eq_true rfl) (Nat.le_of_ble_eq_true rfl) rfl rfl hc
theorem r114_30 : Runs xs sl d 114 30 [some (.ref a0), l1] [] H r ↔ Runs xs sl d 114 31 [some (.ref a0), l1] [.ref a0] H r := q_aload_n (mo_114 30 rfl) rfl rfl
theorem r114_31 : Runs xs sl d 114 31 [l0, l1] [.ref b0] H r ↔ ∃ v, hO H b0 5 8 = some v ∧ Runs xs sl d 114 34 [l0, l1] [v] H r := q_getf (mo_114 31 rfl) mow_114 rfl rfl
theorem r114_34 : Runs xs sl d 114 34 [l0, l1] [s0] H r ↔ Runs xs sl d 114 35 [l0, l1] [.int 2, s0] H r := q_iconst (mo_114 34 rfl) rfl rfl
theorem r114_35 : Runs xs sl d 114 35 [l0, l1] [.int u1, .int u0] H r ↔ if ¬ u0 = u1 then Runs xs sl d 114 48 [l0, l1] [] H r else Runs xs sl d 114 38 [l0, l1] [] H r := q_icmp_ne (mo_114 35 rfl) rfl rfl
theorem r114_38 : Runs xs sl d 114 38 [some (.ref a0), l1] [] H r ↔ Runs xs sl d 114 39 [some (.ref a0), l1] [.ref a0] H r := q_aload_n (mo_114 38 rfl) rfl rfl
theorem r114_39 : Runs xs sl d 114 39 [l0, l1] [.ref b0] H r ↔ ∃ v, hO H b0 5 2 = some v ∧ Runs xs sl d 114 42 [l0, l1] [v] H r := q_getf (mo_114 39 rfl) mow_114 rfl rfl
theorem r114_42 : Runs xs sl d 114 42 [l0, l1] [.ref b0] H r ↔ ∃ v, hO H b0 4 0 = some v ∧ Runs xs sl d 114 45 [l0, l1] [v] H r := q_getf (mo_114 42 rfl) mow_114 rfl rfl
theorem r114_45 : Runs xs sl d 114 45 [l0, l1] [s0] H r ↔ Runs xs sl d 114 55 [l0, l1] [s0] H r := q_goto (mo_114 45 rfl) rfl
theorem r114_48 : Runs xs sl d 114 48 [some (.ref a0), l1] [] H r ↔ Runs xs sl d 114 49 [some (.ref a0), l1] [.ref a0] H r := q_aload_n (mo_114 48 rfl) rfl rfl
theorem r114_49 : Runs xs sl d 114 49 [l0, l1] [.ref b0] H r ↔ ∃ v, hO H b0 5 0 = some v ∧ Runs xs sl d 114 52 [l0, l1] [v] H r := q_getf (mo_114 49 rfl) mow_114 rfl rfl
theorem r114_52 : Runs xs sl d 114 52 [l0, l1] [.ref b0] H r ↔ ∃ v, hO H b0 8 0 = some v ∧ Runs xs sl d 114 55 [l0, l1] [v] H r := q_getf (mo_114 52 rfl) mow_114 rfl rfl
theorem r114_55 : Runs xs sl d 114 55 [some (.ref a0), l1] [.int u0] H r ↔ Runs xs sl d 114 56 [some (.ref a0), some (.int u0)] [] H r := q_istore_n (mo_114 55 rfl) (Nat.le_of_ble_eq_true rfl) rfl rfl
theorem r114_55_1 : Runs xs sl d 114 55 [some .null, l1] [.int u0] H r ↔ Runs xs sl d 114 56 [some .null, some (.int u0)] [] H r := q_istore_n (mo_114 55 rfl) (Nat.le_of_ble_eq_true rfl) rfl rfl
theorem r114_56 : Runs xs sl d 114 56 [some (.ref a0), l1] [] H r ↔ Runs xs sl d 114 57 [some (.ref a0), l1] [.ref a0] H r := q_aload_n (mo_114 56 rfl) rfl rfl
theorem r114_57 : Runs xs sl d 114 57 [l0, l1] [.ref b0] H r ↔ ∃ v, hO H b0 5 8 = some v ∧ Runs xs sl d 114 60 [l0, l1] [v] H r := q_getf (mo_114 57 rfl) mow_114 rfl rfl
theorem r114_60 : Runs xs sl d 114 60 [l0, l1] [s0] H r ↔ Runs xs sl d 114 61 [l0, l1] [.int 1, s0] H r := q_iconst (mo_114 60 rfl) rfl rfl
theorem r114_61 : Runs xs sl d 114 61 [l0, l1] [.int u1, .int u0] H r ↔ if u0 = u1 then Runs xs sl d 114 81 [l0, l1] [] H r else Runs xs sl d 114 64 [l0, l1] [] H r := q_icmp_eq (mo_114 61 rfl) rfl rfl
theorem r114_64 : Runs xs sl d 114 64 [some (.ref a0), l1] [] H r ↔ Runs xs sl d 114 65 [some (.ref a0), l1] [.ref a0] H r := q_aload_n (mo_114 64 rfl) rfl rfl
theorem r114_65 : Runs xs sl d 114 65 [l0, l1] [.ref b0] H r ↔ ∃ v, hO H b0 5 14 = some v ∧ Runs xs sl d 114 68 [l0, l1] [v] H r := q_getf (mo_114 65 rfl) mow_114 rfl rfl
theorem r114_68 : Runs xs sl d 114 68 [l0, some (.int i1)] [s0] H r ↔ Runs xs sl d 114 69 [l0, some (.int i1)] [.int i1, s0] H r := q_iload_n (mo_114 68 rfl) rfl rfl
theorem r114_69 : Runs xs sl d 114 69 [l0, l1] [.int u1, .int u0] H r ↔ if u0 < u1 then Runs xs sl d 114 81 [l0, l1] [] H r else Runs xs sl d 114 72 [l0, l1] [] H r := q_icmp_lt (mo_114 69 rfl) rfl rfl
theorem r114_72 : Runs xs sl d 114 72 [some (.ref a0), l1] [] H r ↔ Runs xs sl d 114 73 [some (.ref a0), l1] [.ref a0] H r := q_aload_n (mo_114 72 rfl) rfl rfl
theorem r114_73 : Runs xs sl d 114 73 [l0, l1] [s0] H r ↔ Runs xs sl d 114 74 [l0, l1] [.int 5, s0] H r := q_iconst (mo_114 73 rfl) rfl rfl
theorem r114_74 : Runs xs sl d 114 74 [some (.ref a0), l1] [s1, s0] H r ↔ Runs xs sl d 114 75 [some (.ref a0), l1] [.ref a0, s1, s0] H r := q_aload_n (mo_114 74 rfl) rfl rfl
theorem r114_75 : Runs xs sl d 114 75 [l0, l1] [.ref b2, s1, s0] H r ↔ ∃ v, hO H b2 5 7 = some v ∧ Runs xs sl d 114 78 [l0, l1] [v, s1, s0] H r := q_getf (mo_114 75 rfl) mow_114 rfl rfl
theorem r114_78 (hc : hC H b0 = some 5) : Runs xs sl (d + 1) 114 78 [l0, l1] [.int u2, .int u1, .ref b0] H r ↔ ∃ v H1, Runs xs sl d 97 0 [some (.ref b0), some (.int u1), some (.int u2)] [] H (v, H1) ∧ Runs xs sl (d + 1) 114 81 [l0, l1] (v.toList ++ []) H1 r := q_callV (M' := 97) (as := [.int u1, .int u2]) (rest := []) (mo_114 78 rfl) mow_114 rfl mcs_97 mmx_97 rfl (Nat.le_of_ble_eq_true rfl) (Nat.le_of_ble_eq_true rfl) rfl rfl hc
theorem r114_81 : Runs xs sl d 114 81 [l0, l1] [] H r ↔ r = (none, H) := q_ret (mo_114 81 rfl) mrt_114
end ROWS
