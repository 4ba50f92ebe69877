/-! ROWS, printed by wip/whole/rows.py: 40:49,81:85,145:169 -/
section ROWS
variable {xs : Nat → Int32} {sl d : Nat} {H : mH} {r : Option Value × mH} {l0 l1 l2 l3 l4 l5 l6 l7 l8 l9 l10 l11 : Option Value} {s0 s1 s2 s3 s4 s5 s6 s7 s8 s9 s10 s11 : Value} {i0 i1 i2 i3 i4 i5 i6 i7 i8 i9 i10 i11 : Int32} {j0 j1 j2 j3 j4 j5 j6 j7 j8 j9 j10 j11 : Int64} {a0 a1 a2 a3 a4 a5 a6 a7 a8 a9 a10 a11 : Nat} {u0 u1 u2 u3 u4 u5 u6 u7 u8 u9 u10 u11 : Int32} {w0 w1 w2 w3 w4 w5 w6 w7 w8 w9 w10 w11 : Int64} {b0 b1 b2 b3 b4 b5 b6 b7 b8 b9 b10 b11 : Nat}
theorem r40_0 : Runs xs sl d 40 0 [some (.int i0), l1] [] H r ↔ Runs xs sl d 40 1 [some (.int i0), l1] [.int i0] H r := q_iload_n (mo_40 0 rfl) rfl rfl
theorem r40_1 : Runs xs sl d 40 1 [l0, l1] [s0] H r ↔ Runs xs sl d 40 2 [l0, l1] [.int 1, s0] H r := q_iconst (mo_40 1 rfl) rfl rfl
theorem r40_2 : Runs xs sl d 40 2 [l0, l1] [.int u1, .int u0] H r ↔ if u0 < u1 then Runs xs sl d 40 25 [l0, l1] [] H r else Runs xs sl d 40 5 [l0, l1] [] H r := q_icmp_lt (mo_40 2 rfl) rfl rfl
theorem r40_5 : Runs xs sl d 40 5 [some (.int i0), l1] [] H r ↔ Runs xs sl d 40 6 [some (.int i0), l1] [.int i0] H r := q_iload_n (mo_40 5 rfl) rfl rfl
theorem r40_6 : Runs xs sl d 40 6 [l0, l1] [s0] H r ↔ Runs xs sl d 40 8 [l0, l1] [.int 12, s0] H r := q_bipush (mo_40 6 rfl) rfl rfl
theorem r40_8 : Runs xs sl d 40 8 [l0, l1] [.int u1, .int u0] H r ↔ if u1 < u0 then Runs xs sl d 40 25 [l0, l1] [] H r else Runs xs sl d 40 11 [l0, l1] [] H r := q_icmp_gt (mo_40 8 rfl) rfl rfl
theorem r40_11 : Runs xs sl d 40 11 [l0, some (.int i1)] [] H r ↔ Runs xs sl d 40 12 [l0, some (.int i1)] [.int i1] H r := q_iload_n (mo_40 11 rfl) rfl rfl
theorem r40_12 : Runs xs sl d 40 12 [l0, l1] [.int u0] H r ↔ if u0 < 0 then Runs xs sl d 40 25 [l0, l1] [] H r else Runs xs sl d 40 15 [l0, l1] [] H r := q_if_lt (mo_40 12 rfl) rfl rfl
theorem r40_15 : Runs xs sl d 40 15 [l0, some (.int i1)] [] H r ↔ Runs xs sl d 40 16 [l0, some (.int i1)] [.int i1] H r := q_iload_n (mo_40 15 rfl) rfl rfl
theorem r40_16 : Runs xs sl d 40 16 [l0, l1] [s0] H r ↔ Runs xs sl d 40 18 [l0, l1] [.int 10, s0] H r := q_bipush (mo_40 16 rfl) rfl rfl
theorem r40_18 : Runs xs sl d 40 18 [l0, l1] [.int u1, .int u0] H r ↔ if u1 < u0 then Runs xs sl d 40 25 [l0, l1] [] H r else Runs xs sl d 40 21 [l0, l1] [] H r := q_icmp_gt (mo_40 18 rfl) rfl rfl
theorem r40_21 : Runs xs sl d 40 21 [l0, l1] [] H r ↔ Runs xs sl d 40 22 [l0, l1] [.int 1] H r := q_iconst (mo_40 21 rfl) rfl rfl
theorem r40_22 : Runs xs sl d 40 22 [l0, l1] [s0] H r ↔ Runs xs sl d 40 26 [l0, l1] [s0] H r := q_goto (mo_40 22 rfl) rfl
theorem r40_25 : Runs xs sl d 40 25 [l0, l1] [] H r ↔ Runs xs sl d 40 26 [l0, l1] [.int 0] H r := q_iconst (mo_40 25 rfl) rfl rfl
theorem r40_26 (h : u0 = 0 ∨ u0 = 1) : Runs xs sl d 40 26 [l0, l1] [.int u0] H r ↔ r = (some (.int u0), H) := q_zret (mo_40 26 rfl) mrt_40 h
theorem r41_0 : Runs xs sl d 41 0 [l0, l1, l2, l3, l4, l5] [] H r ↔ Runs xs sl d 41 1 [l0, l1, l2, l3, l4, l5] [.long 1] H r := q_lconst (mo_41 0 rfl) rfl rfl
theorem r41_1 : Runs xs sl d 41 1 [l0, l1, some (.int i2), l3, l4, l5] [.long w0] H r ↔ Runs xs sl d 41 2 [l0, l1, some (.int i2), some (.long w0), none, l5] [] H r := q_lstore_n (mo_41 1 rfl) (Nat.le_of_ble_eq_true rfl) rfl rfl
theorem r41_2 : Runs xs sl d 41 2 [l0, l1, l2, l3, l4, l5] [] H r ↔ Runs xs sl d 41 3 [l0, l1, l2, l3, l4, l5] [.int 0] H r := q_iconst (mo_41 2 rfl) rfl rfl
theorem r41_3 : Runs xs sl d 41 3 [l0, l1, l2, l3, none, l5] [.int u0] H r ↔ Runs xs sl d 41 5 [l0, l1, l2, l3, none, some (.int u0)] [] H r := q_istore (mo_41 3 rfl) (Nat.le_of_ble_eq_true rfl) rfl rfl
theorem r41_5 : Runs xs sl d 41 5 [l0, l1, l2, l3, l4, some (.int i5)] [] H r ↔ Runs xs sl d 41 7 [l0, l1, l2, l3, l4, some (.int i5)] [.int i5] H r := q_iload (mo_41 5 rfl) rfl rfl
theorem r41_7 : Runs xs sl d 41 7 [l0, l1, some (.int i2), l3, l4, l5] [s0] H r ↔ Runs xs sl d 41 8 [l0, l1, some (.int i2), l3, l4, l5] [.int i2, s0] H r := q_iload_n (mo_41 7 rfl) rfl rfl
theorem r41_8 : Runs xs sl d 41 8 [l0, l1, l2, l3, l4, l5] [.int u1, .int u0] H r ↔ if u1 ≤ u0 then Runs xs sl d 41 21 [l0, l1, l2, l3, l4, l5] [] H r else Runs xs sl d 41 11 [l0, l1, l2, l3, l4, l5] [] H r := q_icmp_ge (mo_41 8 rfl) rfl rfl
theorem r41_11 : Runs xs sl d 41 11 [l0, l1, l2, some (.long j3), l4, l5] [] H r ↔ Runs xs sl d 41 12 [l0, l1, l2, some (.long j3), l4, l5] [.long j3] H r := q_lload_n (mo_41 11 rfl) rfl rfl
theorem r41_12 : Runs xs sl d 41 12 [some (.long j0), l1, l2, l3, l4, l5] [s0] H r ↔ Runs xs sl d 41 13 [some (.long j0), l1, l2, l3, l4, l5] [.long j0, s0] H r := q_lload_n (mo_41 12 rfl) rfl rfl
theorem r41_13 : Runs xs sl d 41 13 [l0, l1, l2, l3, l4, l5] [.long w1, .long w0] H r ↔ Runs xs sl d 41 14 [l0, l1, l2, l3, l4, l5] [.long (w0 * w1)] H r := q_lmul (mo_41 13 rfl) rfl
theorem r41_14 : Runs xs sl d 41 14 [l0, l1, some (.int i2), l3, l4, l5] [.long w0] H r ↔ Runs xs sl d 41 15 [l0, l1, some (.int i2), some (.long w0), none, l5] [] H r := q_lstore_n (mo_41 14 rfl) (Nat.le_of_ble_eq_true rfl) rfl rfl
theorem r41_15 : Runs xs sl d 41 15 [l0, l1, l2, l3, none, some (.int i5)] [] H r ↔ Runs xs sl d 41 18 [l0, l1, l2, l3, none, some (.int (i5 + 1))] [] H r := q_iinc (mo_41 15 rfl) rfl (Nat.le_of_ble_eq_true rfl) rfl rfl
theorem r41_18 : Runs xs sl d 41 18 [l0, l1, l2, l3, l4, l5] [] H r ↔ Runs xs sl d 41 5 [l0, l1, l2, l3, l4, l5] [] H r := q_goto (mo_41 18 rfl) rfl
theorem r41_21 : Runs xs sl d 41 21 [l0, l1, l2, some (.long j3), l4, l5] [] H r ↔ Runs xs sl d 41 22 [l0, l1, l2, some (.long j3), l4, l5] [.long j3] H r := q_lload_n (mo_41 21 rfl) rfl rfl
theorem r41_22 : Runs xs sl d 41 22 [l0, l1, l2, l3, l4, l5] [.long w0] H r ↔ r = (some (.long w0), H) := q_lret (mo_41 22 rfl) mrt_41
theorem r42_0 : Runs xs sl d 42 0 [l0, l1, l2, l3, l4, l5] [] H r ↔ Runs xs sl d 42 1 [l0, l1, l2, l3, l4, l5] [.long 0] H r := q_lconst (mo_42 0 rfl) rfl rfl
theorem r42_1 : Runs xs sl d 42 1 [l0, l1, some (.int i2), l3, l4, l5] [.long w0] H r ↔ Runs xs sl d 42 2 [l0, l1, some (.int i2), some (.long w0), none, l5] [] H r := q_lstore_n (mo_42 1 rfl) (Nat.le_of_ble_eq_true rfl) rfl rfl
theorem r42_2 : Runs xs sl d 42 2 [l0, some (.int i1), l2, l3, l4, l5] [] H r ↔ Runs xs sl d 42 3 [l0, some (.int i1), l2, l3, l4, l5] [.int i1] H r := q_iload_n (mo_42 2 rfl) rfl rfl
theorem r42_3 : Runs xs sl d 42 3 [l0, l1, l2, l3, none, l5] [.int u0] H r ↔ Runs xs sl d 42 5 [l0, l1, l2, l3, none, some (.int u0)] [] H r := q_istore (mo_42 3 rfl) (Nat.le_of_ble_eq_true rfl) rfl rfl
theorem r42_5 : Runs xs sl d 42 5 [l0, l1, l2, l3, l4, some (.int i5)] [] H r ↔ Runs xs sl d 42 7 [l0, l1, l2, l3, l4, some (.int i5)] [.int i5] H r := q_iload (mo_42 5 rfl) rfl rfl
theorem r42_7 : Runs xs sl d 42 7 [some (.int i0), l1, l2, l3, l4, l5] [s0] H r ↔ Runs xs sl d 42 8 [some (.int i0), l1, l2, l3, l4, l5] [.int i0, s0] H r := q_iload_n (mo_42 7 rfl) rfl rfl
theorem r42_8 : Runs xs sl d 42 8 [l0, l1, l2, l3, l4, l5] [.int u1, .int u0] H r ↔ if u1 < u0 then Runs xs sl d 42 27 [l0, l1, l2, l3, l4, l5] [] H r else Runs xs sl d 42 11 [l0, l1, l2, l3, l4, l5] [] H r := q_icmp_gt (mo_42 8 rfl) rfl rfl
theorem r42_11 : Runs xs sl d 42 11 [l0, l1, l2, some (.long j3), l4, l5] [] H r ↔ Runs xs sl d 42 12 [l0, l1, l2, some (.long j3), l4, l5] [.long j3] H r := q_lload_n (mo_42 11 rfl) rfl rfl
theorem r42_12 : Runs xs sl d 42 12 [some (.int i0), l1, l2, l3, l4, l5] [s0] H r ↔ Runs xs sl d 42 13 [some (.int i0), l1, l2, l3, l4, l5] [.int i0, s0] H r := q_iload_n (mo_42 12 rfl) rfl rfl
theorem r42_13 : Runs xs sl d 42 13 [l0, l1, l2, l3, l4, some (.int i5)] [s1, s0] H r ↔ Runs xs sl d 42 15 [l0, l1, l2, l3, l4, some (.int i5)] [.int i5, s1, s0] H r := q_iload (mo_42 13 rfl) rfl rfl
theorem r42_15 : Runs xs sl d 42 15 [l0, l1, some (.int i2), l3, l4, l5] [s2, s1, s0] H r ↔ Runs xs sl d 42 16 [l0, l1, some (.int i2), l3, l4, l5] [.int i2, s2, s1, s0] H r := q_iload_n (mo_42 15 rfl) rfl rfl
theorem r42_16 : Runs xs sl (d + 1) 42 16 [l0, l1, l2, l3, l4, l5] [.int u3, .int u2, .int u1, .long w0] H r ↔ ∃ v H1, Runs xs sl d 43 0 [some (.int u1), some (.int u2), some (.int u3), none, none, none] [] H (v, H1) ∧ Runs xs sl (d + 1) 42 19 [l0, l1, l2, l3, l4, l5] (v.toList ++ [.long w0]) H1 r := q_callS (M' := 43) (as := [.int u1, .int u2, .int u3]) (rest := [.long w0]) (mo_42 16 rfl) mow_42 rfl mmx_43 rfl (Nat.le_of_ble_eq_true rfl) (Nat.le_of_ble_eq_true rfl) rfl rfl
theorem r42_19 : Runs xs sl d 42 19 [l0, l1, l2, l3, l4, l5] [.long w1, .long w0] H r ↔ Runs xs sl d 42 20 [l0, l1, l2, l3, l4, l5] [.long (w0 + w1)] H r := q_ladd (mo_42 19 rfl) rfl
theorem r42_20 : Runs xs sl d 42 20 [l0, l1, some (.int i2), l3, l4, l5] [.long w0] H r ↔ Runs xs sl d 42 21 [l0, l1, some (.int i2), some (.long w0), none, l5] [] H r := q_lstore_n (mo_42 20 rfl) (Nat.le_of_ble_eq_true rfl) rfl rfl
theorem r42_21 : Runs xs sl d 42 21 [l0, l1, l2, l3, none, some (.int i5)] [] H r ↔ Runs xs sl d 42 24 [l0, l1, l2, l3, none, some (.int (i5 + 1))] [] H r := q_iinc (mo_42 21 rfl) rfl (Nat.le_of_ble_eq_true rfl) rfl rfl
theorem r42_24 : Runs xs sl d 42 24 [l0, l1, l2, l3, l4, l5] [] H r ↔ Runs xs sl d 42 5 [l0, l1, l2, l3, l4, l5] [] H r := q_goto (mo_42 24 rfl) rfl
theorem r42_27 : Runs xs sl d 42 27 [l0, l1, l2, some (.long j3), l4, l5] [] H r ↔ Runs xs sl d 42 28 [l0, l1, l2, some (.long j3), l4, l5] [.long j3] H r := q_lload_n (mo_42 27 rfl) rfl rfl
theorem r42_28 : Runs xs sl d 42 28 [l0, l1, l2, l3, l4, l5] [.long w0] H r ↔ r = (some (.long w0), H) := q_lret (mo_42 28 rfl) mrt_42
theorem r43_0 : Runs xs sl d 43 0 [l0, l1, some (.int i2), l3, l4, l5] [] H r ↔ Runs xs sl d 43 1 [l0, l1, some (.int i2), l3, l4, l5] [.int i2] H r := q_iload_n (mo_43 0 rfl) rfl rfl
theorem r43_1 : Runs xs sl d 43 1 [l0, l1, l2, l3, l4, l5] [.int u0] H r ↔ Runs xs sl d 43 2 [l0, l1, l2, l3, l4, l5] [.long u0.toInt64] H r := q_i2l (mo_43 1 rfl) rfl
theorem r43_2 : Runs xs sl d 43 2 [l0, some (.int i1), l2, l3, l4, l5] [s0] H r ↔ Runs xs sl d 43 3 [l0, some (.int i1), l2, l3, l4, l5] [.int i1, s0] H r := q_iload_n (mo_43 2 rfl) rfl rfl
theorem r43_3 : Runs xs sl (d + 1) 43 3 [l0, l1, l2, l3, l4, l5] [.int u1, .long w0] H r ↔ ∃ v H1, Runs xs sl d 41 0 [some (.long w0), none, some (.int u1), none, none, none] [] H (v, H1) ∧ Runs xs sl (d + 1) 43 6 [l0, l1, l2, l3, l4, l5] (v.toList ++ []) H1 r := q_callS (M' := 41) (as := [.long w0, .int u1]) (rest := []) (mo_43 3 rfl) mow_43 rfl mmx_41 rfl (Nat.le_of_ble_eq_true rfl) (Nat.le_of_ble_eq_true rfl) rfl rfl
theorem r43_6 : Runs xs sl d 43 6 [l0, l1, l2, l3, l4, l5] [s0] H r ↔ Runs xs sl d 43 8 [l0, l1, l2, l3, l4, l5] [.int 10, s0] H r := q_bipush (mo_43 6 rfl) rfl rfl
theorem r43_8 : Runs xs sl d 43 8 [l0, l1, some (.int i2), l3, l4, l5] [s1, s0] H r ↔ Runs xs sl d 43 9 [l0, l1, some (.int i2), l3, l4, l5] [.int i2, s1, s0] H r := q_iload_n (mo_43 8 rfl) rfl rfl
theorem r43_9 : Runs xs sl d 43 9 [l0, l1, l2, l3, l4, l5] [.int u2, .int u1, s0] H r ↔ Runs xs sl d 43 10 [l0, l1, l2, l3, l4, l5] [.int (u1 - u2), s0] H r := q_isub (mo_43 9 rfl) rfl
theorem r43_10 : Runs xs sl d 43 10 [l0, l1, l2, l3, l4, l5] [.int u1, s0] H r ↔ Runs xs sl d 43 11 [l0, l1, l2, l3, l4, l5] [.long u1.toInt64, s0] H r := q_i2l (mo_43 10 rfl) rfl
theorem r43_11 : Runs xs sl d 43 11 [some (.int i0), l1, l2, l3, l4, l5] [s1, s0] H r ↔ Runs xs sl d 43 12 [some (.int i0), l1, l2, l3, l4, l5] [.int i0, s1, s0] H r := q_iload_n (mo_43 11 rfl) rfl rfl
theorem r43_12 : Runs xs sl d 43 12 [l0, some (.int i1), l2, l3, l4, l5] [s2, s1, s0] H r ↔ Runs xs sl d 43 13 [l0, some (.int i1), l2, l3, l4, l5] [.int i1, s2, s1, s0] H r := q_iload_n (mo_43 12 rfl) rfl rfl
theorem r43_13 : Runs xs sl d 43 13 [l0, l1, l2, l3, l4, l5] [.int u3, .int u2, s1, s0] H r ↔ Runs xs sl d 43 14 [l0, l1, l2, l3, l4, l5] [.int (u2 - u3), s1, s0] H r := q_isub (mo_43 13 rfl) rfl
theorem r43_14 : Runs xs sl (d + 1) 43 14 [l0, l1, l2, l3, l4, l5] [.int u2, .long w1, .long w0] H r ↔ ∃ v H1, Runs xs sl d 41 0 [some (.long w1), none, some (.int u2), none, none, none] [] H (v, H1) ∧ Runs xs sl (d + 1) 43 17 [l0, l1, l2, l3, l4, l5] (v.toList ++ [.long w0]) H1 r := q_callS (M' := 41) (as := [.long w1, .int u2]) (rest := [.long w0]) (mo_43 14 rfl) mow_43 rfl mmx_41 rfl (Nat.le_of_ble_eq_true rfl) (Nat.le_of_ble_eq_true rfl) rfl rfl
theorem r43_17 : Runs xs sl d 43 17 [l0, l1, l2, l3, l4, l5] [.long w1, .long w0] H r ↔ Runs xs sl d 43 18 [l0, l1, l2, l3, l4, l5] [.long (w0 * w1)] H r := q_lmul (mo_43 17 rfl) rfl
theorem r43_18 : Runs xs sl d 43 18 [l0, l1, some (.int i2), l3, l4, l5] [.long w0] H r ↔ Runs xs sl d 43 19 [l0, l1, some (.int i2), some (.long w0), none, l5] [] H r := q_lstore_n (mo_43 18 rfl) (Nat.le_of_ble_eq_true rfl) rfl rfl
theorem r43_19 : Runs xs sl d 43 19 [l0, l1, l2, l3, l4, l5] [] H r ↔ Runs xs sl d 43 20 [l0, l1, l2, l3, l4, l5] [.int 0] H r := q_iconst (mo_43 19 rfl) rfl rfl
theorem r43_20 : Runs xs sl d 43 20 [l0, l1, l2, l3, none, l5] [.int u0] H r ↔ Runs xs sl d 43 22 [l0, l1, l2, l3, none, some (.int u0)] [] H r := q_istore (mo_43 20 rfl) (Nat.le_of_ble_eq_true rfl) rfl rfl
theorem r43_22 : Runs xs sl d 43 22 [l0, l1, l2, l3, l4, some (.int i5)] [] H r ↔ Runs xs sl d 43 24 [l0, l1, l2, l3, l4, some (.int i5)] [.int i5] H r := q_iload (mo_43 22 rfl) rfl rfl
theorem r43_24 : Runs xs sl d 43 24 [l0, some (.int i1), l2, l3, l4, l5] [s0] H r ↔ Runs xs sl d 43 25 [l0, some (.int i1), l2, l3, l4, l5] [.int i1, s0] H r := q_iload_n (mo_43 24 rfl) rfl rfl
theorem r43_25 : Runs xs sl d 43 25 [l0, l1, l2, l3, l4, l5] [.int u1, .int u0] H r ↔ if u1 ≤ u0 then Runs xs sl d 43 48 [l0, l1, l2, l3, l4, l5] [] H r else Runs xs sl d 43 28 [l0, l1, l2, l3, l4, l5] [] H r := q_icmp_ge (mo_43 25 rfl) rfl rfl
theorem r43_28 : Runs xs sl d 43 28 [l0, l1, l2, some (.long j3), l4, l5] [] H r ↔ Runs xs sl d 43 29 [l0, l1, l2, some (.long j3), l4, l5] [.long j3] H r := q_lload_n (mo_43 28 rfl) rfl rfl
theorem r43_29 : Runs xs sl d 43 29 [some (.int i0), l1, l2, l3, l4, l5] [s0] H r ↔ Runs xs sl d 43 30 [some (.int i0), l1, l2, l3, l4, l5] [.int i0, s0] H r := q_iload_n (mo_43 29 rfl) rfl rfl
theorem r43_30 : Runs xs sl d 43 30 [l0, l1, l2, l3, l4, some (.int i5)] [s1, s0] H r ↔ Runs xs sl d 43 32 [l0, l1, l2, l3, l4, some (.int i5)] [.int i5, s1, s0] H r := q_iload (mo_43 30 rfl) rfl rfl
theorem r43_32 : Runs xs sl d 43 32 [l0, l1, l2, l3, l4, l5] [.int u2, .int u1, s0] H r ↔ Runs xs sl d 43 33 [l0, l1, l2, l3, l4, l5] [.int (u1 - u2), s0] H r := q_isub (mo_43 32 rfl) rfl
theorem r43_33 : Runs xs sl d 43 33 [l0, l1, l2, l3, l4, l5] [.int u1, s0] H r ↔ Runs xs sl d 43 34 [l0, l1, l2, l3, l4, l5] [.long u1.toInt64, s0] H r := q_i2l (mo_43 33 rfl) rfl
theorem r43_34 : Runs xs sl d 43 34 [l0, l1, l2, l3, l4, l5] [.long w1, .long w0] H r ↔ Runs xs sl d 43 35 [l0, l1, l2, l3, l4, l5] [.long (w0 * w1)] H r := q_lmul (mo_43 34 rfl) rfl
theorem r43_35 : Runs xs sl d 43 35 [l0, l1, l2, l3, l4, some (.int i5)] [s0] H r ↔ Runs xs sl d 43 37 [l0, l1, l2, l3, l4, some (.int i5)] [.int i5, s0] H r := q_iload (mo_43 35 rfl) rfl rfl
theorem r43_37 : Runs xs sl d 43 37 [l0, l1, l2, l3, l4, l5] [s1, s0] H r ↔ Runs xs sl d 43 38 [l0, l1, l2, l3, l4, l5] [.int 1, s1, s0] H r := q_iconst (mo_43 37 rfl) rfl rfl
theorem r43_38 : Runs xs sl d 43 38 [l0, l1, l2, l3, l4, l5] [.int u2, .int u1, s0] H r ↔ Runs xs sl d 43 39 [l0, l1, l2, l3, l4, l5] [.int (u1 + u2), s0] H r := q_iadd (mo_43 38 rfl) rfl
theorem r43_39 : Runs xs sl d 43 39 [l0, l1, l2, l3, l4, l5] [.int u1, s0] H r ↔ Runs xs sl d 43 40 [l0, l1, l2, l3, l4, l5] [.long u1.toInt64, s0] H r := q_i2l (mo_43 39 rfl) rfl
theorem r43_40 (h : ¬ w1 = 0) : Runs xs sl d 43 40 [l0, l1, l2, l3, l4, l5] [.long w1, .long w0] H r ↔ Runs xs sl d 43 41 [l0, l1, l2, l3, l4, l5] [.long (w0 / w1)] H r := q_ldiv (mo_43 40 rfl) h rfl
theorem r43_41 : Runs xs sl d 43 41 [l0, l1, some (.int i2), l3, l4, l5] [.long w0] H r ↔ Runs xs sl d 43 42 [l0, l1, some (.int i2), some (.long w0), none, l5] [] H r := q_lstore_n (mo_43 41 rfl) (Nat.le_of_ble_eq_true rfl) rfl rfl
theorem r43_42 : Runs xs sl d 43 42 [l0, l1, l2, l3, none, some (.int i5)] [] H r ↔ Runs xs sl d 43 45 [l0, l1, l2, l3, none, some (.int (i5 + 1))] [] H r := q_iinc (mo_43 42 rfl) rfl (Nat.le_of_ble_eq_true rfl) rfl rfl
theorem r43_45 : Runs xs sl d 43 45 [l0, l1, l2, l3, l4, l5] [] H r ↔ Runs xs sl d 43 22 [l0, l1, l2, l3, l4, l5] [] H r := q_goto (mo_43 45 rfl) rfl
theorem r43_48 : Runs xs sl d 43 48 [l0, l1, l2, some (.long j3), l4, l5] [] H r ↔ Runs xs sl d 43 49 [l0, l1, l2, some (.long j3), l4, l5] [.long j3] H r := q_lload_n (mo_43 48 rfl) rfl rfl
theorem r43_49 : Runs xs sl d 43 49 [l0, l1, l2, l3, l4, l5] [.long w0] H r ↔ r = (some (.long w0), H) := q_lret (mo_43 49 rfl) mrt_43
theorem r44_0 : Runs xs sl d 44 0 [some (.long j0), l1, l2, l3, l4, l5, l6, l7, l8, l9, l10] [] H r ↔ Runs xs sl d 44 1 [some (.long j0), l1, l2, l3, l4, l5, l6, l7, l8, l9, l10] [.long j0] H r := q_lload_n (mo_44 0 rfl) rfl rfl
theorem r44_1 : Runs xs sl d 44 1 [l0, l1, l2, none, l4, l5, l6, l7, l8, l9, l10] [.long w0] H r ↔ Runs xs sl d 44 3 [l0, l1, l2, none, some (.long w0), none, l6, l7, l8, l9, l10] [] H r := q_lstore (mo_44 1 rfl) (Nat.le_of_ble_eq_true rfl) rfl rfl
theorem r44_3 : Runs xs sl d 44 3 [l0, l1, some (.long j2), l3, l4, l5, l6, l7, l8, l9, l10] [] H r ↔ Runs xs sl d 44 4 [l0, l1, some (.long j2), l3, l4, l5, l6, l7, l8, l9, l10] [.long j2] H r := q_lload_n (mo_44 3 rfl) rfl rfl
theorem r44_4 : Runs xs sl d 44 4 [l0, l1, l2, l3, l4, none, l6, l7, l8, l9, l10] [.long w0] H r ↔ Runs xs sl d 44 6 [l0, l1, l2, l3, l4, none, some (.long w0), none, l8, l9, l10] [] H r := q_lstore (mo_44 4 rfl) (Nat.le_of_ble_eq_true rfl) rfl rfl
theorem r44_6 : Runs xs sl d 44 6 [l0, l1, l2, l3, l4, l5, l6, l7, l8, l9, l10] [] H r ↔ Runs xs sl d 44 7 [l0, l1, l2, l3, l4, l5, l6, l7, l8, l9, l10] [.int 0] H r := q_iconst (mo_44 6 rfl) rfl rfl
theorem r44_7 : Runs xs sl d 44 7 [l0, l1, l2, l3, l4, l5, l6, none, l8, l9, l10] [.int u0] H r ↔ Runs xs sl d 44 9 [l0, l1, l2, l3, l4, l5, l6, none, some (.int u0), l9, l10] [] H r := q_istore (mo_44 7 rfl) (Nat.le_of_ble_eq_true rfl) rfl rfl
theorem r44_9 : Runs xs sl d 44 9 [l0, l1, l2, l3, l4, l5, l6, l7, some (.int i8), l9, l10] [] H r ↔ Runs xs sl d 44 11 [l0, l1, l2, l3, l4, l5, l6, l7, some (.int i8), l9, l10] [.int i8] H r := q_iload (mo_44 9 rfl) rfl rfl
theorem r44_11 : Runs xs sl d 44 11 [l0, l1, l2, l3, l4, l5, l6, l7, l8, l9, l10] [s0] H r ↔ Runs xs sl d 44 13 [l0, l1, l2, l3, l4, l5, l6, l7, l8, l9, l10] [.int 100, s0] H r := q_bipush (mo_44 11 rfl) rfl rfl
theorem r44_13 : Runs xs sl d 44 13 [l0, l1, l2, l3, l4, l5, l6, l7, l8, l9, l10] [.int u1, .int u0] H r ↔ if u1 ≤ u0 then Runs xs sl d 44 44 [l0, l1, l2, l3, l4, l5, l6, l7, l8, l9, l10] [] H r else Runs xs sl d 44 16 [l0, l1, l2, l3, l4, l5, l6, l7, l8, l9, l10] [] H r := q_icmp_ge (mo_44 13 rfl) rfl rfl
theorem r44_16 : Runs xs sl d 44 16 [l0, l1, l2, l3, l4, l5, some (.long j6), l7, l8, l9, l10] [] H r ↔ Runs xs sl d 44 18 [l0, l1, l2, l3, l4, l5, some (.long j6), l7, l8, l9, l10] [.long j6] H r := q_lload (mo_44 16 rfl) rfl rfl
theorem r44_18 : Runs xs sl d 44 18 [l0, l1, l2, l3, l4, l5, l6, l7, l8, l9, l10] [s0] H r ↔ Runs xs sl d 44 19 [l0, l1, l2, l3, l4, l5, l6, l7, l8, l9, l10] [.long 0, s0] H r := q_lconst (mo_44 18 rfl) rfl rfl
theorem r44_19 : Runs xs sl d 44 19 [l0, l1, l2, l3, l4, l5, l6, l7, l8, l9, l10] [.long w1, .long w0] H r ↔ Runs xs sl d 44 20 [l0, l1, l2, l3, l4, l5, l6, l7, l8, l9, l10] [.int (lg_cmp w0 w1)] H r := q_lcmp (mo_44 19 rfl) rfl
theorem r44_20 : Runs xs sl d 44 20 [l0, l1, l2, l3, l4, l5, l6, l7, l8, l9, l10] [.int u0] H r ↔ if u0 = 0 then Runs xs sl d 44 44 [l0, l1, l2, l3, l4, l5, l6, l7, l8, l9, l10] [] H r else Runs xs sl d 44 23 [l0, l1, l2, l3, l4, l5, l6, l7, l8, l9, l10] [] H r := q_if_eq (mo_44 20 rfl) rfl rfl
theorem r44_23 : Runs xs sl d 44 23 [l0, l1, l2, l3, some (.long j4), l5, l6, l7, l8, l9, l10] [] H r ↔ Runs xs sl d 44 25 [l0, l1, l2, l3, some (.long j4), l5, l6, l7, l8, l9, l10] [.long j4] H r := q_lload (mo_44 23 rfl) rfl rfl
theorem r44_25 : Runs xs sl d 44 25 [l0, l1, l2, l3, l4, l5, some (.long j6), l7, l8, l9, l10] [s0] H r ↔ Runs xs sl d 44 27 [l0, l1, l2, l3, l4, l5, some (.long j6), l7, l8, l9, l10] [.long j6, s0] H r := q_lload (mo_44 25 rfl) rfl rfl
theorem r44_27 (h : ¬ w1 = 0) : Runs xs sl d 44 27 [l0, l1, l2, l3, l4, l5, l6, l7, l8, l9, l10] [.long w1, .long w0] H r ↔ Runs xs sl d 44 28 [l0, l1, l2, l3, l4, l5, l6, l7, l8, l9, l10] [.long (w0 - w0 / w1 * w1)] H r := q_lrem (mo_44 27 rfl) h rfl
theorem r44_28 : Runs xs sl d 44 28 [l0, l1, l2, l3, l4, l5, l6, l7, some (.int i8), l9, l10] [.long w0] H r ↔ Runs xs sl d 44 30 [l0, l1, l2, l3, l4, l5, l6, l7, some (.int i8), some (.long w0), none] [] H r := q_lstore (mo_44 28 rfl) (Nat.le_of_ble_eq_true rfl) rfl rfl
theorem r44_30 : Runs xs sl d 44 30 [l0, l1, l2, l3, l4, l5, some (.long j6), l7, l8, l9, l10] [] H r ↔ Runs xs sl d 44 32 [l0, l1, l2, l3, l4, l5, some (.long j6), l7, l8, l9, l10] [.long j6] H r := q_lload (mo_44 30 rfl) rfl rfl
theorem r44_32 : Runs xs sl d 44 32 [l0, l1, l2, none, l4, l5, l6, l7, l8, l9, l10] [.long w0] H r ↔ Runs xs sl d 44 34 [l0, l1, l2, none, some (.long w0), none, l6, l7, l8, l9, l10] [] H r := q_lstore (mo_44 32 rfl) (Nat.le_of_ble_eq_true rfl) rfl rfl
theorem r44_34 : Runs xs sl d 44 34 [l0, l1, l2, l3, l4, l5, l6, l7, l8, some (.long j9), l10] [] H r ↔ Runs xs sl d 44 36 [l0, l1, l2, l3, l4, l5, l6, l7, l8, some (.long j9), l10] [.long j9] H r := q_lload (mo_44 34 rfl) rfl rfl
theorem r44_36 : Runs xs sl d 44 36 [l0, l1, l2, l3, l4, none, l6, l7, l8, l9, l10] [.long w0] H r ↔ Runs xs sl d 44 38 [l0, l1, l2, l3, l4, none, some (.long w0), none, l8, l9, l10] [] H r := q_lstore (mo_44 36 rfl) (Nat.le_of_ble_eq_true rfl) rfl rfl
theorem r44_38 : Runs xs sl d 44 38 [l0, l1, l2, l3, l4, l5, l6, none, some (.int i8), l9, l10] [] H r ↔ Runs xs sl d 44 41 [l0, l1, l2, l3, l4, l5, l6, none, some (.int (i8 + 1)), l9, l10] [] H r := q_iinc (mo_44 38 rfl) rfl (Nat.le_of_ble_eq_true rfl) rfl rfl
theorem r44_41 : Runs xs sl d 44 41 [l0, l1, l2, l3, l4, l5, l6, l7, l8, l9, l10] [] H r ↔ Runs xs sl d 44 9 [l0, l1, l2, l3, l4, l5, l6, l7, l8, l9, l10] [] H r := q_goto (mo_44 41 rfl) rfl
theorem r44_44 : Runs xs sl d 44 44 [l0, l1, l2, l3, some (.long j4), l5, l6, l7, l8, l9, l10] [] H r ↔ Runs xs sl d 44 46 [l0, l1, l2, l3, some (.long j4), l5, l6, l7, l8, l9, l10] [.long j4] H r := q_lload (mo_44 44 rfl) rfl rfl
theorem r44_46 : Runs xs sl d 44 46 [l0, l1, l2, l3, l4, l5, l6, l7, l8, l9, l10] [.long w0] H r ↔ r = (some (.long w0), H) := q_lret (mo_44 46 rfl) mrt_44
theorem r45_0 : Runs xs sl d 45 0 [l0, l1, l2, l3, l4, l5, l6, l7, l8, l9, l10] [] H r ↔ Runs xs sl d 45 3 [l0, l1, l2, l3, l4, l5, l6, l7, l8, l9, l10] [.long 10] H r := q_ldc2_w (mo_45 0 rfl) mow_45 rfl rfl
theorem r45_3 : Runs xs sl d 45 3 [some (.int i0), l1, l2, l3, l4, l5, l6, l7, l8, l9, l10] [s0] H r ↔ Runs xs sl d 45 4 [some (.int i0), l1, l2, l3, l4, l5, l6, l7, l8, l9, l10] [.int i0, s0] H r := q_iload_n (mo_45 3 rfl) rfl rfl
theorem r45_4 : Runs xs sl (d + 1) 45 4 [l0, l1, l2, l3, l4, l5, l6, l7, l8, l9, l10] [.int u1, .long w0] H r ↔ ∃ v H1, Runs xs sl d 41 0 [some (.long w0), none, some (.int u1), none, none, none] [] H (v, H1) ∧ Runs xs sl (d + 1) 45 7 [l0, l1, l2, l3, l4, l5, l6, l7, l8, l9, l10] (v.toList ++ []) H1 r := q_callS (M' := 41) (as := [.long w0, .int u1]) (rest := []) (mo_45 4 rfl) mow_45 rfl mmx_41 rfl (Nat.le_of_ble_eq_true rfl) (Nat.le_of_ble_eq_true rfl) rfl rfl
theorem r45_7 : Runs xs sl d 45 7 [l0, l1, some (.int i2), l3, l4, l5, l6, l7, l8, l9, l10] [.long w0] H r ↔ Runs xs sl d 45 8 [l0, l1, some (.int i2), some (.long w0), none, l5, l6, l7, l8, l9, l10] [] H r := q_lstore_n (mo_45 7 rfl) (Nat.le_of_ble_eq_true rfl) rfl rfl
theorem r45_8 : Runs xs sl d 45 8 [l0, l1, l2, some (.long j3), l4, l5, l6, l7, l8, l9, l10] [] H r ↔ Runs xs sl d 45 9 [l0, l1, l2, some (.long j3), l4, l5, l6, l7, l8, l9, l10] [.long j3] H r := q_lload_n (mo_45 8 rfl) rfl rfl
theorem r45_9 : Runs xs sl d 45 9 [l0, l1, l2, l3, none, l5, l6, l7, l8, l9, l10] [.long w0] H r ↔ Runs xs sl d 45 11 [l0, l1, l2, l3, none, some (.long w0), none, l7, l8, l9, l10] [] H r := q_lstore (mo_45 9 rfl) (Nat.le_of_ble_eq_true rfl) rfl rfl
theorem r45_11 : Runs xs sl d 45 11 [l0, l1, l2, l3, l4, l5, l6, l7, l8, l9, l10] [] H r ↔ Runs xs sl d 45 12 [l0, l1, l2, l3, l4, l5, l6, l7, l8, l9, l10] [.int 0] H r := q_iconst (mo_45 11 rfl) rfl rfl
theorem r45_12 : Runs xs sl d 45 12 [l0, l1, l2, l3, l4, l5, none, l7, l8, l9, l10] [.int u0] H r ↔ Runs xs sl d 45 14 [l0, l1, l2, l3, l4, l5, none, some (.int u0), l8, l9, l10] [] H r := q_istore (mo_45 12 rfl) (Nat.le_of_ble_eq_true rfl) rfl rfl
theorem r45_14 : Runs xs sl d 45 14 [l0, l1, l2, l3, l4, l5, l6, l7, l8, l9, l10] [] H r ↔ Runs xs sl d 45 15 [l0, l1, l2, l3, l4, l5, l6, l7, l8, l9, l10] [.int 1] H r := q_iconst (mo_45 14 rfl) rfl rfl
theorem r45_15 : Runs xs sl d 45 15 [l0, l1, l2, l3, l4, l5, l6, some (.int i7), l8, l9, l10] [.int u0] H r ↔ Runs xs sl d 45 17 [l0, l1, l2, l3, l4, l5, l6, some (.int i7), some (.int u0), l9, l10] [] H r := q_istore (mo_45 15 rfl) (Nat.le_of_ble_eq_true rfl) rfl rfl
theorem r45_17 : Runs xs sl d 45 17 [l0, l1, l2, l3, l4, l5, l6, l7, some (.int i8), l9, l10] [] H r ↔ Runs xs sl d 45 19 [l0, l1, l2, l3, l4, l5, l6, l7, some (.int i8), l9, l10] [.int i8] H r := q_iload (mo_45 17 rfl) rfl rfl
theorem r45_19 : Runs xs sl d 45 19 [some (.int i0), l1, l2, l3, l4, l5, l6, l7, l8, l9, l10] [s0] H r ↔ Runs xs sl d 45 20 [some (.int i0), l1, l2, l3, l4, l5, l6, l7, l8, l9, l10] [.int i0, s0] H r := q_iload_n (mo_45 19 rfl) rfl rfl
theorem r45_20 : Runs xs sl d 45 20 [l0, l1, l2, l3, l4, l5, l6, l7, l8, l9, l10] [s1, s0] H r ↔ Runs xs sl d 45 21 [l0, l1, l2, l3, l4, l5, l6, l7, l8, l9, l10] [.int 1, s1, s0] H r := q_iconst (mo_45 20 rfl) rfl rfl
theorem r45_21 : Runs xs sl d 45 21 [l0, l1, l2, l3, l4, l5, l6, l7, l8, l9, l10] [.int u2, .int u1, s0] H r ↔ Runs xs sl d 45 22 [l0, l1, l2, l3, l4, l5, l6, l7, l8, l9, l10] [.int (u1 + u2), s0] H r := q_iadd (mo_45 21 rfl) rfl
theorem r45_22 : Runs xs sl d 45 22 [l0, l1, l2, l3, l4, l5, l6, l7, l8, l9, l10] [.int u1, .int u0] H r ↔ if u1 < u0 then Runs xs sl d 45 66 [l0, l1, l2, l3, l4, l5, l6, l7, l8, l9, l10] [] H r else Runs xs sl d 45 25 [l0, l1, l2, l3, l4, l5, l6, l7, l8, l9, l10] [] H r := q_icmp_gt (mo_45 22 rfl) rfl rfl
theorem r45_25 : Runs xs sl d 45 25 [l0, l1, l2, some (.long j3), l4, l5, l6, l7, l8, l9, l10] [] H r ↔ Runs xs sl d 45 26 [l0, l1, l2, some (.long j3), l4, l5, l6, l7, l8, l9, l10] [.long j3] H r := q_lload_n (mo_45 25 rfl) rfl rfl
theorem r45_26 : Runs xs sl d 45 26 [some (.int i0), l1, l2, l3, l4, l5, l6, l7, l8, l9, l10] [s0] H r ↔ Runs xs sl d 45 27 [some (.int i0), l1, l2, l3, l4, l5, l6, l7, l8, l9, l10] [.int i0, s0] H r := q_iload_n (mo_45 26 rfl) rfl rfl
theorem r45_27 : Runs xs sl d 45 27 [l0, l1, l2, l3, l4, l5, l6, l7, some (.int i8), l9, l10] [s1, s0] H r ↔ Runs xs sl d 45 29 [l0, l1, l2, l3, l4, l5, l6, l7, some (.int i8), l9, l10] [.int i8, s1, s0] H r := q_iload (mo_45 27 rfl) rfl rfl
theorem r45_29 : Runs xs sl d 45 29 [l0, some (.int i1), l2, l3, l4, l5, l6, l7, l8, l9, l10] [s2, s1, s0] H r ↔ Runs xs sl d 45 30 [l0, some (.int i1), l2, l3, l4, l5, l6, l7, l8, l9, l10] [.int i1, s2, s1, s0] H r := q_iload_n (mo_45 29 rfl) rfl rfl
theorem r45_30 : Runs xs sl (d + 1) 45 30 [l0, l1, l2, l3, l4, l5, l6, l7, l8, l9, l10] [.int u3, .int u2, .int u1, .long w0] H r ↔ ∃ v H1, Runs xs sl d 42 0 [some (.int u1), some (.int u2), some (.int u3), none, none, none] [] H (v, H1) ∧ Runs xs sl (d + 1) 45 33 [l0, l1, l2, l3, l4, l5, l6, l7, l8, l9, l10] (v.toList ++ [.long w0]) H1 r := q_callS (M' := 42) (as := [.int u1, .int u2, .int u3]) (rest := [.long w0]) (mo_45 30 rfl) mow_45 rfl mmx_42 rfl (Nat.le_of_ble_eq_true rfl) (Nat.le_of_ble_eq_true rfl) rfl rfl
theorem r45_33 : Runs xs sl d 45 33 [l0, l1, l2, l3, l4, l5, l6, l7, l8, l9, l10] [.long w1, .long w0] H r ↔ Runs xs sl d 45 34 [l0, l1, l2, l3, l4, l5, l6, l7, l8, l9, l10] [.long (w0 - w1)] H r := q_lsub (mo_45 33 rfl) rfl
theorem r45_34 : Runs xs sl d 45 34 [some (.int i0), l1, l2, l3, l4, l5, l6, l7, l8, l9, l10] [s0] H r ↔ Runs xs sl d 45 35 [some (.int i0), l1, l2, l3, l4, l5, l6, l7, l8, l9, l10] [.int i0, s0] H r := q_iload_n (mo_45 34 rfl) rfl rfl
theorem r45_35 : Runs xs sl d 45 35 [l0, l1, l2, l3, l4, l5, l6, l7, some (.int i8), l9, l10] [s1, s0] H r ↔ Runs xs sl d 45 37 [l0, l1, l2, l3, l4, l5, l6, l7, some (.int i8), l9, l10] [.int i8, s1, s0] H r := q_iload (mo_45 35 rfl) rfl rfl
theorem r45_37 : Runs xs sl d 45 37 [l0, l1, some (.int i2), l3, l4, l5, l6, l7, l8, l9, l10] [s2, s1, s0] H r ↔ Runs xs sl d 45 38 [l0, l1, some (.int i2), l3, l4, l5, l6, l7, l8, l9, l10] [.int i2, s2, s1, s0] H r := q_iload_n (mo_45 37 rfl) rfl rfl
theorem r45_38 : Runs xs sl (d + 1) 45 38 [l0, l1, l2, l3, l4, l5, l6, l7, l8, l9, l10] [.int u3, .int u2, .int u1, .long w0] H r ↔ ∃ v H1, Runs xs sl d 42 0 [some (.int u1), some (.int u2), some (.int u3), none, none, none] [] H (v, H1) ∧ Runs xs sl (d + 1) 45 41 [l0, l1, l2, l3, l4, l5, l6, l7, l8, l9, l10] (v.toList ++ [.long w0]) H1 r := q_callS (M' := 42) (as := [.int u1, .int u2, .int u3]) (rest := [.long w0]) (mo_45 38 rfl) mow_45 rfl mmx_42 rfl (Nat.le_of_ble_eq_true rfl) (Nat.le_of_ble_eq_true rfl) rfl rfl
theorem r45_41 : Runs xs sl d 45 41 [l0, l1, l2, l3, l4, l5, l6, l7, l8, l9, l10] [.long w1, .long w0] H r ↔ Runs xs sl d 45 42 [l0, l1, l2, l3, l4, l5, l6, l7, l8, l9, l10] [.long (w0 + w1)] H r := q_ladd (mo_45 41 rfl) rfl
theorem r45_42 : Runs xs sl d 45 42 [l0, l1, l2, l3, l4, l5, l6, l7, some (.int i8), l9, l10] [.long w0] H r ↔ Runs xs sl d 45 44 [l0, l1, l2, l3, l4, l5, l6, l7, some (.int i8), some (.long w0), none] [] H r := q_lstore (mo_45 42 rfl) (Nat.le_of_ble_eq_true rfl) rfl rfl
theorem r45_44 : Runs xs sl d 45 44 [l0, l1, l2, l3, l4, l5, l6, l7, l8, some (.long j9), l10] [] H r ↔ Runs xs sl d 45 46 [l0, l1, l2, l3, l4, l5, l6, l7, l8, some (.long j9), l10] [.long j9] H r := q_lload (mo_45 44 rfl) rfl rfl
theorem r45_46 : Runs xs sl d 45 46 [l0, l1, l2, l3, l4, some (.long j5), l6, l7, l8, l9, l10] [s0] H r ↔ Runs xs sl d 45 48 [l0, l1, l2, l3, l4, some (.long j5), l6, l7, l8, l9, l10] [.long j5, s0] H r := q_lload (mo_45 46 rfl) rfl rfl
theorem r45_48 : Runs xs sl d 45 48 [l0, l1, l2, l3, l4, l5, l6, l7, l8, l9, l10] [.long w1, .long w0] H r ↔ Runs xs sl d 45 49 [l0, l1, l2, l3, l4, l5, l6, l7, l8, l9, l10] [.int (lg_cmp w0 w1)] H r := q_lcmp (mo_45 48 rfl) rfl
theorem r45_49 : Runs xs sl d 45 49 [l0, l1, l2, l3, l4, l5, l6, l7, l8, l9, l10] [.int u0] H r ↔ if 0 ≤ u0 then Runs xs sl d 45 60 [l0, l1, l2, l3, l4, l5, l6, l7, l8, l9, l10] [] H r else Runs xs sl d 45 52 [l0, l1, l2, l3, l4, l5, l6, l7, l8, l9, l10] [] H r := q_if_ge (mo_45 49 rfl) rfl rfl
theorem r45_52 : Runs xs sl d 45 52 [l0, l1, l2, l3, l4, l5, l6, l7, l8, some (.long j9), l10] [] H r ↔ Runs xs sl d 45 54 [l0, l1, l2, l3, l4, l5, l6, l7, l8, some (.long j9), l10] [.long j9] H r := q_lload (mo_45 52 rfl) rfl rfl
theorem r45_54 : Runs xs sl d 45 54 [l0, l1, l2, l3, none, l5, l6, l7, l8, l9, l10] [.long w0] H r ↔ Runs xs sl d 45 56 [l0, l1, l2, l3, none, some (.long w0), none, l7, l8, l9, l10] [] H r := q_lstore (mo_45 54 rfl) (Nat.le_of_ble_eq_true rfl) rfl rfl
theorem r45_56 : Runs xs sl d 45 56 [l0, l1, l2, l3, l4, l5, l6, l7, some (.int i8), l9, l10] [] H r ↔ Runs xs sl d 45 58 [l0, l1, l2, l3, l4, l5, l6, l7, some (.int i8), l9, l10] [.int i8] H r := q_iload (mo_45 56 rfl) rfl rfl
theorem r45_58 : Runs xs sl d 45 58 [l0, l1, l2, l3, l4, l5, none, l7, l8, l9, l10] [.int u0] H r ↔ Runs xs sl d 45 60 [l0, l1, l2, l3, l4, l5, none, some (.int u0), l8, l9, l10] [] H r := q_istore (mo_45 58 rfl) (Nat.le_of_ble_eq_true rfl) rfl rfl
theorem r45_60 : Runs xs sl d 45 60 [l0, l1, l2, l3, l4, l5, l6, some (.int i7), some (.int i8), l9, l10] [] H r ↔ Runs xs sl d 45 63 [l0, l1, l2, l3, l4, l5, l6, some (.int i7), some (.int (i8 + 1)), l9, l10] [] H r := q_iinc (mo_45 60 rfl) rfl (Nat.le_of_ble_eq_true rfl) rfl rfl
theorem r45_63 : Runs xs sl d 45 63 [l0, l1, l2, l3, l4, l5, l6, l7, l8, l9, l10] [] H r ↔ Runs xs sl d 45 17 [l0, l1, l2, l3, l4, l5, l6, l7, l8, l9, l10] [] H r := q_goto (mo_45 63 rfl) rfl
theorem r45_66 : Runs xs sl d 45 66 [l0, l1, l2, l3, l4, l5, l6, some (.int i7), l8, l9, l10] [] H r ↔ Runs xs sl d 45 68 [l0, l1, l2, l3, l4, l5, l6, some (.int i7), l8, l9, l10] [.int i7] H r := q_iload (mo_45 66 rfl) rfl rfl
theorem r45_68 : Runs xs sl d 45 68 [l0, l1, l2, l3, l4, l5, l6, l7, l8, l9, l10] [.int u0] H r ↔ r = (some (.int u0), H) := q_iret (mo_45 68 rfl) mrt_45
theorem r46_0 : Runs xs sl d 46 0 [some (.ref a0)] [] H r ↔ Runs xs sl d 46 1 [some (.ref a0)] [.ref a0] H r := q_aload_n (mo_46 0 rfl) rfl rfl
theorem r46_1 : Runs xs sl (d + 1) 46 1 [l0] [.ref b0] H r ↔ ∃ v H1, Runs xs sl d 292 0 [some (.ref b0)] [] H (v, H1) ∧ Runs xs sl (d + 1) 46 4 [l0] (v.toList ++ []) H1 r := q_callI (M' := 292) (as := []) (rest := []) (mo_46 1 rfl) mow_46 rfl mmx_292 rfl (Nat.le_of_ble_eq_true rfl) (Nat.le_of_ble_eq_true rfl) rfl rfl
theorem r46_4 : Runs xs sl d 46 4 [some (.ref a0)] [] H r ↔ Runs xs sl d 46 5 [some (.ref a0)] [.ref a0] H r := q_aload_n (mo_46 4 rfl) rfl rfl
theorem r46_5 : Runs xs sl d 46 5 [l0] [s0] H r ↔ Runs xs sl d 46 8 [l0] [.int 160, s0] H r := q_sipush (mo_46 5 rfl) rfl rfl
theorem r46_8 (h : ¬ (u1 < 0 ∨ 100000 < u1.toNatClampNeg)) : Runs xs sl d 46 8 [l0] [.int u1, s0] H r ↔ Runs xs sl d 46 10 [l0] [.ref H.2.1, s0] (mnew H (mI 0 u1.toNatClampNeg (fun _ => 0)) u1.toNatClampNeg) r := q_newa_int (mo_46 8 rfl) rfl h
theorem r46_10 : Runs xs sl d 46 10 [l0] [.ref b1, .ref b0] H r ↔ ∃ H1, hOw H b0 0 1 (.ref b1) = some H1 ∧ Runs xs sl d 46 13 [l0] [] H1 r := q_putf (mo_46 10 rfl) mow_46 rfl rfl (by decide +kernel) rfl
theorem r46_13 : Runs xs sl d 46 13 [l0] [] H r ↔ r = (none, H) := q_ret (mo_46 13 rfl) mrt_46
theorem r47_0 : Runs xs sl d 47 0 [some (.ref a0)] [] H r ↔ Runs xs sl d 47 1 [some (.ref a0)] [.ref a0] H r := q_aload_n (mo_47 0 rfl) rfl rfl
theorem r47_1 : Runs xs sl d 47 1 [l0] [s0] H r ↔ Runs xs sl d 47 2 [l0] [.int 0, s0] H r := q_iconst (mo_47 1 rfl) rfl rfl
theorem r47_2 : Runs xs sl d 47 2 [l0] [.int u1, .ref b0] H r ↔ ∃ H1, hOw H b0 0 0 (.int u1) = some H1 ∧ Runs xs sl d 47 5 [l0] [] H1 r := q_putf (mo_47 2 rfl) mow_47 rfl rfl (by decide +kernel) rfl
theorem r47_5 : Runs xs sl d 47 5 [l0] [] H r ↔ r = (none, H) := q_ret (mo_47 5 rfl) mrt_47
theorem r48_0 : Runs xs sl d 48 0 [some (.ref a0), l1] [] H r ↔ Runs xs sl d 48 1 [some (.ref a0), l1] [.ref a0] H r := q_aload_n (mo_48 0 rfl) rfl rfl
theorem r48_1 : Runs xs sl d 48 1 [l0, some (.ref a1)] [s0] H r ↔ Runs xs sl d 48 2 [l0, some (.ref a1)] [.ref a1, s0] H r := q_aload_n (mo_48 1 rfl) rfl rfl
theorem r48_1n : Runs xs sl d 48 1 [l0, some .null] [s0] H r ↔ Runs xs sl d 48 2 [l0, some .null] [.null, s0] H r := q_aload_nN (mo_48 1 rfl) rfl rfl
theorem r48_2 : Runs xs sl d 48 2 [l0, l1] [.ref b1, s0] H r ↔ ∃ v, hO H b1 0 0 = some v ∧ Runs xs sl d 48 5 [l0, l1] [v, s0] H r := q_getf (mo_48 2 rfl) mow_48 rfl rfl
theorem r48_5 : Runs xs sl d 48 5 [l0, l1] [.int u1, .ref b0] H r ↔ ∃ H1, hOw H b0 0 0 (.int u1) = some H1 ∧ Runs xs sl d 48 8 [l0, l1] [] H1 r := q_putf (mo_48 5 rfl) mow_48 rfl rfl (by decide +kernel) rfl
theorem r48_8 : Runs xs sl d 48 8 [l0, some (.ref a1)] [] H r ↔ Runs xs sl d 48 9 [l0, some (.ref a1)] [.ref a1] H r := q_aload_n (mo_48 8 rfl) rfl rfl
theorem r48_8n : Runs xs sl d 48 8 [l0, some .null] [] H r ↔ Runs xs sl d 48 9 [l0, some .null] [.null] H r := q_aload_nN (mo_48 8 rfl) rfl rfl
theorem r48_9 : Runs xs sl d 48 9 [l0, l1] [.ref b0] H r ↔ ∃ v, hO H b0 0 1 = some v ∧ Runs xs sl d 48 12 [l0, l1] [v] H r := q_getf (mo_48 9 rfl) mow_48 rfl rfl
theorem r48_12 : Runs xs sl d 48 12 [l0, l1] [s0] H r ↔ Runs xs sl d 48 13 [l0, l1] [.int 0, s0] H r := q_iconst (mo_48 12 rfl) rfl rfl
theorem r48_13 : Runs xs sl d 48 13 [some (.ref a0), l1] [s1, s0] H r ↔ Runs xs sl d 48 14 [some (.ref a0), l1] [.ref a0, s1, s0] H r := q_aload_n (mo_48 13 rfl) rfl rfl
theorem r48_14 : Runs xs sl d 48 14 [l0, l1] [.ref b2, s1, s0] H r ↔ ∃ v, hO H b2 0 1 = some v ∧ Runs xs sl d 48 17 [l0, l1] [v, s1, s0] H r := q_getf (mo_48 14 rfl) mow_48 rfl rfl
theorem r48_17 : Runs xs sl d 48 17 [l0, l1] [s2, s1, s0] H r ↔ Runs xs sl d 48 18 [l0, l1] [.int 0, s2, s1, s0] H r := q_iconst (mo_48 17 rfl) rfl rfl
theorem r48_18 : Runs xs sl d 48 18 [l0, l1] [s3, s2, s1, s0] H r ↔ Runs xs sl d 48 21 [l0, l1] [.int 160, s3, s2, s1, s0] H r := q_sipush (mo_48 18 rfl) rfl rfl
theorem r48_21 : Runs xs sl (d + 1) 48 21 [l0, l1] [.int u4, .int u3, .ref b2, .int u1, .ref b0] H r ↔ ∃ H1, hCp H b0 b2 u1 u3 u4 = some H1 ∧ Runs xs sl (d + 1) 48 24 [l0, l1] [] H1 r := q_copy (mo_48 21 rfl) mow_48 rfl (Nat.le_of_ble_eq_true rfl) rfl
theorem r48_24 : Runs xs sl d 48 24 [l0, l1] [] H r ↔ r = (none, H) := q_ret (mo_48 24 rfl) mrt_48
theorem r81_0 : Runs xs sl d 81 0 [some (.ref a0)] [] H r ↔ Runs xs sl d 81 1 [some (.ref a0)] [.ref a0] H r := q_aload_n (mo_81 0 rfl) rfl rfl
theorem r81_1 : Runs xs sl (d + 1) 81 1 [l0] [.ref b0] H r ↔ ∃ v H1, Runs xs sl d 292 0 [some (.ref b0)] [] H (v, H1) ∧ Runs xs sl (d + 1) 81 4 [l0] (v.toList ++ []) H1 r := q_callI (M' := 292) (as := []) (rest := []) (mo_81 1 rfl) mow_81 rfl mmx_292 rfl (Nat.le_of_ble_eq_true rfl) (Nat.le_of_ble_eq_true rfl) rfl rfl
theorem r81_4 : Runs xs sl d 81 4 [some (.ref a0)] [] H r ↔ Runs xs sl d 81 5 [some (.ref a0)] [.ref a0] H r := q_aload_n (mo_81 4 rfl) rfl rfl
theorem r81_5 : Runs xs sl d 81 5 [l0] [s0] H r ↔ Runs xs sl d 81 6 [l0] [.int 3, s0] H r := q_iconst (mo_81 5 rfl) rfl rfl
theorem r81_6 : Runs xs sl d 81 6 [l0] [.int u1, .ref b0] H r ↔ ∃ H1, hOw H b0 4 0 (.int u1) = some H1 ∧ Runs xs sl d 81 9 [l0] [] H1 r := q_putf (mo_81 6 rfl) mow_81 rfl rfl (by decide +kernel) rfl
theorem r81_9 : Runs xs sl d 81 9 [some (.ref a0)] [] H r ↔ Runs xs sl d 81 10 [some (.ref a0)] [.ref a0] H r := q_aload_n (mo_81 9 rfl) rfl rfl
theorem r81_10 : Runs xs sl d 81 10 [l0] [s0] H r ↔ Runs xs sl d 81 12 [l0] [.int 36, s0] H r := q_bipush (mo_81 10 rfl) rfl rfl
theorem r81_12 (h : ¬ (u1 < 0 ∨ 100000 < u1.toNatClampNeg)) : Runs xs sl d 81 12 [l0] [.int u1, s0] H r ↔ Runs xs sl d 81 14 [l0] [.ref H.2.1, s0] (mnew H (mI 0 u1.toNatClampNeg (fun _ => 0)) u1.toNatClampNeg) r := q_newa_int (mo_81 12 rfl) rfl h
theorem r81_14 : Runs xs sl d 81 14 [l0] [.ref b1, .ref b0] H r ↔ ∃ H1, hOw H b0 4 3 (.ref b1) = some H1 ∧ Runs xs sl d 81 17 [l0] [] H1 r := q_putf (mo_81 14 rfl) mow_81 rfl rfl (by decide +kernel) rfl
theorem r81_17 : Runs xs sl d 81 17 [l0] [] H r ↔ r = (none, H) := q_ret (mo_81 17 rfl) mrt_81
theorem r82_0 : Runs xs sl d 82 0 [some (.ref a0)] [] H r ↔ Runs xs sl d 82 1 [some (.ref a0)] [.ref a0] H r := q_aload_n (mo_82 0 rfl) rfl rfl
theorem r82_1 : Runs xs sl d 82 1 [l0] [s0] H r ↔ Runs xs sl d 82 2 [l0] [.int 3, s0] H r := q_iconst (mo_82 1 rfl) rfl rfl
theorem r82_2 : Runs xs sl d 82 2 [l0] [.int u1, .ref b0] H r ↔ ∃ H1, hOw H b0 4 0 (.int u1) = some H1 ∧ Runs xs sl d 82 5 [l0] [] H1 r := q_putf (mo_82 2 rfl) mow_82 rfl rfl (by decide +kernel) rfl
theorem r82_5 : Runs xs sl d 82 5 [some (.ref a0)] [] H r ↔ Runs xs sl d 82 6 [some (.ref a0)] [.ref a0] H r := q_aload_n (mo_82 5 rfl) rfl rfl
theorem r82_6 : Runs xs sl d 82 6 [l0] [s0] H r ↔ Runs xs sl d 82 7 [l0] [.int 0, s0] H r := q_iconst (mo_82 6 rfl) rfl rfl
theorem r82_7 : Runs xs sl d 82 7 [l0] [.int u1, .ref b0] H r ↔ ∃ H1, hOw H b0 4 1 (.int u1) = some H1 ∧ Runs xs sl d 82 10 [l0] [] H1 r := q_putf (mo_82 7 rfl) mow_82 rfl rfl (by decide +kernel) rfl
theorem r82_10 : Runs xs sl d 82 10 [some (.ref a0)] [] H r ↔ Runs xs sl d 82 11 [some (.ref a0)] [.ref a0] H r := q_aload_n (mo_82 10 rfl) rfl rfl
theorem r82_11 : Runs xs sl d 82 11 [l0] [s0] H r ↔ Runs xs sl d 82 12 [l0] [.int 0, s0] H r := q_iconst (mo_82 11 rfl) rfl rfl
theorem r82_12 : Runs xs sl d 82 12 [l0] [.int u1, .ref b0] H r ↔ ∃ H1, hOw H b0 4 2 (.int u1) = some H1 ∧ Runs xs sl d 82 15 [l0] [] H1 r := q_putf (mo_82 12 rfl) mow_82 rfl rfl (by decide +kernel) rfl
theorem r82_15 : Runs xs sl d 82 15 [l0] [] H r ↔ r = (none, H) := q_ret (mo_82 15 rfl) mrt_82
theorem r83_0 : Runs xs sl d 83 0 [some (.ref a0), l1] [] H r ↔ Runs xs sl d 83 1 [some (.ref a0), l1] [.ref a0] H r := q_aload_n (mo_83 0 rfl) rfl rfl
theorem r83_1 : Runs xs sl d 83 1 [l0, some (.ref a1)] [s0] H r ↔ Runs xs sl d 83 2 [l0, some (.ref a1)] [.ref a1, s0] H r := q_aload_n (mo_83 1 rfl) rfl rfl
theorem r83_1n : Runs xs sl d 83 1 [l0, some .null] [s0] H r ↔ Runs xs sl d 83 2 [l0, some .null] [.null, s0] H r := q_aload_nN (mo_83 1 rfl) rfl rfl
theorem r83_2 : Runs xs sl d 83 2 [l0, l1] [.ref b1, s0] H r ↔ ∃ v, hO H b1 4 0 = some v ∧ Runs xs sl d 83 5 [l0, l1] [v, s0] H r := q_getf (mo_83 2 rfl) mow_83 rfl rfl
theorem r83_5 : Runs xs sl d 83 5 [l0, l1] [.int u1, .ref b0] H r ↔ ∃ H1, hOw H b0 4 0 (.int u1) = some H1 ∧ Runs xs sl d 83 8 [l0, l1] [] H1 r := q_putf (mo_83 5 rfl) mow_83 rfl rfl (by decide +kernel) rfl
theorem r83_8 : Runs xs sl d 83 8 [some (.ref a0), l1] [] H r ↔ Runs xs sl d 83 9 [some (.ref a0), l1] [.ref a0] H r := q_aload_n (mo_83 8 rfl) rfl rfl
theorem r83_9 : Runs xs sl d 83 9 [l0, some (.ref a1)] [s0] H r ↔ Runs xs sl d 83 10 [l0, some (.ref a1)] [.ref a1, s0] H r := q_aload_n (mo_83 9 rfl) rfl rfl
theorem r83_9n : Runs xs sl d 83 9 [l0, some .null] [s0] H r ↔ Runs xs sl d 83 10 [l0, some .null] [.null, s0] H r := q_aload_nN (mo_83 9 rfl) rfl rfl
theorem r83_10 : Runs xs sl d 83 10 [l0, l1] [.ref b1, s0] H r ↔ ∃ v, hO H b1 4 1 = some v ∧ Runs xs sl d 83 13 [l0, l1] [v, s0] H r := q_getf (mo_83 10 rfl) mow_83 rfl rfl
theorem r83_13 : Runs xs sl d 83 13 [l0, l1] [.int u1, .ref b0] H r ↔ ∃ H1, hOw H b0 4 1 (.int u1) = some H1 ∧ Runs xs sl d 83 16 [l0, l1] [] H1 r := q_putf (mo_83 13 rfl) mow_83 rfl rfl (by decide +kernel) rfl
theorem r83_16 : Runs xs sl d 83 16 [some (.ref a0), l1] [] H r ↔ Runs xs sl d 83 17 [some (.ref a0), l1] [.ref a0] H r := q_aload_n (mo_83 16 rfl) rfl rfl
theorem r83_17 : Runs xs sl d 83 17 [l0, some (.ref a1)] [s0] H r ↔ Runs xs sl d 83 18 [l0, some (.ref a1)] [.ref a1, s0] H r := q_aload_n (mo_83 17 rfl) rfl rfl
theorem r83_17n : Runs xs sl d 83 17 [l0, some .null] [s0] H r ↔ Runs xs sl d 83 18 [l0, some .null] [.null, s0] H r := q_aload_nN (mo_83 17 rfl) rfl rfl
theorem r83_18 : Runs xs sl d 83 18 [l0, l1] [.ref b1, s0] H r ↔ ∃ v, hO H b1 4 2 = some v ∧ Runs xs sl d 83 21 [l0, l1] [v, s0] H r := q_getf (mo_83 18 rfl) mow_83 rfl rfl
theorem r83_21 : Runs xs sl d 83 21 [l0, l1] [.int u1, .ref b0] H r ↔ ∃ H1, hOw H b0 4 2 (.int u1) = some H1 ∧ Runs xs sl d 83 24 [l0, l1] [] H1 r := q_putf (mo_83 21 rfl) mow_83 rfl rfl (by decide +kernel) rfl
theorem r83_24 : Runs xs sl d 83 24 [l0, some (.ref a1)] [] H r ↔ Runs xs sl d 83 25 [l0, some (.ref a1)] [.ref a1] H r := q_aload_n (mo_83 24 rfl) rfl rfl
theorem r83_24n : Runs xs sl d 83 24 [l0, some .null] [] H r ↔ Runs xs sl d 83 25 [l0, some .null] [.null] H r := q_aload_nN (mo_83 24 rfl) rfl rfl
theorem r83_25 : Runs xs sl d 83 25 [l0, l1] [.ref b0] H r ↔ ∃ v, hO H b0 4 3 = some v ∧ Runs xs sl d 83 28 [l0, l1] [v] H r := q_getf (mo_83 25 rfl) mow_83 rfl rfl
theorem r83_28 : Runs xs sl d 83 28 [l0, l1] [s0] H r ↔ Runs xs sl d 83 29 [l0, l1] [.int 0, s0] H r := q_iconst (mo_83 28 rfl) rfl rfl
theorem r83_29 : Runs xs sl d 83 29 [some (.ref a0), l1] [s1, s0] H r ↔ Runs xs sl d 83 30 [some (.ref a0), l1] [.ref a0, s1, s0] H r := q_aload_n (mo_83 29 rfl) rfl rfl
theorem r83_30 : Runs xs sl d 83 30 [l0, l1] [.ref b2, s1, s0] H r ↔ ∃ v, hO H b2 4 3 = some v ∧ Runs xs sl d 83 33 [l0, l1] [v, s1, s0] H r := q_getf (mo_83 30 rfl) mow_83 rfl rfl
theorem r83_33 : Runs xs sl d 83 33 [l0, l1] [s2, s1, s0] H r ↔ Runs xs sl d 83 34 [l0, l1] [.int 0, s2, s1, s0] H r := q_iconst (mo_83 33 rfl) rfl rfl
theorem r83_34 : Runs xs sl d 83 34 [l0, l1] [s3, s2, s1, s0] H r ↔ Runs xs sl d 83 36 [l0, l1] [.int 36, s3, s2, s1, s0] H r := q_bipush (mo_83 34 rfl) rfl rfl
theorem r83_36 : Runs xs sl (d + 1) 83 36 [l0, l1] [.int u4, .int u3, .ref b2, .int u1, .ref b0] H r ↔ ∃ H1, hCp H b0 b2 u1 u3 u4 = some H1 ∧ Runs xs sl (d + 1) 83 39 [l0, l1] [] H1 r := q_copy (mo_83 36 rfl) mow_83 rfl (Nat.le_of_ble_eq_true rfl) rfl
theorem r83_39 : Runs xs sl d 83 39 [l0, l1] [] H r ↔ r = (none, H) := q_ret (mo_83 39 rfl) mrt_83
theorem r84_0 : Runs xs sl d 84 0 [l0, some (.int i1)] [] H r ↔ Runs xs sl d 84 1 [l0, some (.int i1)] [.int i1] H r := q_iload_n (mo_84 0 rfl) rfl rfl
theorem r84_1 : Runs xs sl d 84 1 [l0, l1] [.int u0] H r ↔ if ¬ u0 = 0 then Runs xs sl d 84 9 [l0, l1] [] H r else Runs xs sl d 84 4 [l0, l1] [] H r := q_if_ne (mo_84 1 rfl) rfl rfl
theorem r84_4 : Runs xs sl d 84 4 [some (.ref a0), l1] [] H r ↔ Runs xs sl d 84 5 [some (.ref a0), l1] [.ref a0] H r := q_aload_n (mo_84 4 rfl) rfl rfl
theorem r84_5 : Runs xs sl d 84 5 [l0, l1] [.ref b0] H r ↔ ∃ v, hO H b0 4 0 = some v ∧ Runs xs sl d 84 8 [l0, l1] [v] H r := q_getf (mo_84 5 rfl) mow_84 rfl rfl
theorem r84_8 : Runs xs sl d 84 8 [l0, l1] [.int u0] H r ↔ r = (some (.int u0), H) := q_iret (mo_84 8 rfl) mrt_84
theorem r84_9 : Runs xs sl d 84 9 [l0, some (.int i1)] [] H r ↔ Runs xs sl d 84 10 [l0, some (.int i1)] [.int i1] H r := q_iload_n (mo_84 9 rfl) rfl rfl
theorem r84_10 : Runs xs sl d 84 10 [l0, l1] [s0] H r ↔ Runs xs sl d 84 11 [l0, l1] [.int 1, s0] H r := q_iconst (mo_84 10 rfl) rfl rfl
theorem r84_11 : Runs xs sl d 84 11 [l0, l1] [.int u1, .int u0] H r ↔ if ¬ u0 = u1 then Runs xs sl d 84 21 [l0, l1] [] H r else Runs xs sl d 84 14 [l0, l1] [] H r := q_icmp_ne (mo_84 11 rfl) rfl rfl
theorem r84_14 : Runs xs sl d 84 14 [some (.ref a0), l1] [] H r ↔ Runs xs sl d 84 15 [some (.ref a0), l1] [.ref a0] H r := q_aload_n (mo_84 14 rfl) rfl rfl
theorem r84_15 : Runs xs sl d 84 15 [l0, l1] [.ref b0] H r ↔ ∃ v, hO H b0 4 1 = some v ∧ Runs xs sl d 84 18 [l0, l1] [v] H r := q_getf (mo_84 15 rfl) mow_84 rfl rfl
theorem r84_18 : Runs xs sl d 84 18 [l0, l1] [s0] H r ↔ Runs xs sl d 84 25 [l0, l1] [s0] H r := q_goto (mo_84 18 rfl) rfl
theorem r84_21 : Runs xs sl d 84 21 [some (.ref a0), l1] [] H r ↔ Runs xs sl d 84 22 [some (.ref a0), l1] [.ref a0] H r := q_aload_n (mo_84 21 rfl) rfl rfl
theorem r84_22 : Runs xs sl d 84 22 [l0, l1] [.ref b0] H r ↔ ∃ v, hO H b0 4 2 = some v ∧ Runs xs sl d 84 25 [l0, l1] [v] H r := q_getf (mo_84 22 rfl) mow_84 rfl rfl
theorem r84_25 : Runs xs sl d 84 25 [l0, l1] [.int u0] H r ↔ r = (some (.int u0), H) := q_iret (mo_84 25 rfl) mrt_84
theorem r145_0 : Runs xs sl d 145 0 [some (.ref a0), l1] [] H r ↔ Runs xs sl d 145 1 [some (.ref a0), l1] [.ref a0] H r := q_aload_n (mo_145 0 rfl) rfl rfl
theorem r145_1 : Runs xs sl (d + 1) 145 1 [l0, l1] [.ref b0] H r ↔ ∃ v H1, Runs xs sl d 292 0 [some (.ref b0)] [] H (v, H1) ∧ Runs xs sl (d + 1) 145 4 [l0, l1] (v.toList ++ []) H1 r := q_callI (M' := 292) (as := []) (rest := []) (mo_145 1 rfl) mow_145 rfl mmx_292 rfl (Nat.le_of_ble_eq_true rfl) (Nat.le_of_ble_eq_true rfl) rfl rfl
theorem r145_4 : Runs xs sl d 145 4 [some (.ref a0), l1] [] H r ↔ Runs xs sl d 145 5 [some (.ref a0), l1] [.ref a0] H r := q_aload_n (mo_145 4 rfl) rfl rfl
theorem r145_5 : Runs xs sl d 145 5 [l0, l1] [s0] H r ↔ Runs xs sl d 145 6 [l0, l1] [.int 2, s0] H r := q_iconst (mo_145 5 rfl) rfl rfl
theorem r145_6 (h : ¬ (u1 < 0 ∨ 100000 < u1.toNatClampNeg)) : Runs xs sl d 145 6 [l0, l1] [.int u1, s0] H r ↔ Runs xs sl d 145 9 [l0, l1] [.ref H.2.1, s0] (mnew H (mQ 4 u1.toNatClampNeg (fun _ => none)) u1.toNatClampNeg) r := q_anewa (mo_145 6 rfl) mow_145 rfl rfl rfl h
theorem r145_9 : Runs xs sl d 145 9 [l0, l1] [.ref b1, .ref b0] H r ↔ ∃ H1, hOw H b0 7 0 (.ref b1) = some H1 ∧ Runs xs sl d 145 12 [l0, l1] [] H1 r := q_putf (mo_145 9 rfl) mow_145 rfl rfl (by decide +kernel) rfl
theorem r145_12 : Runs xs sl d 145 12 [some (.ref a0), l1] [] H r ↔ Runs xs sl d 145 13 [some (.ref a0), l1] [.ref a0] H r := q_aload_n (mo_145 12 rfl) rfl rfl
theorem r145_13 : Runs xs sl d 145 13 [l0, l1] [s0] H r ↔ Runs xs sl d 145 14 [l0, l1] [.int 2, s0] H r := q_iconst (mo_145 13 rfl) rfl rfl
theorem r145_14 (h : ¬ (u1 < 0 ∨ 100000 < u1.toNatClampNeg)) : Runs xs sl d 145 14 [l0, l1] [.int u1, s0] H r ↔ Runs xs sl d 145 17 [l0, l1] [.ref H.2.1, s0] (mnew H (mQ 5 u1.toNatClampNeg (fun _ => none)) u1.toNatClampNeg) r := q_anewa (mo_145 14 rfl) mow_145 rfl rfl rfl h
theorem r145_17 : Runs xs sl d 145 17 [l0, l1] [.ref b1, .ref b0] H r ↔ ∃ H1, hOw H b0 7 1 (.ref b1) = some H1 ∧ Runs xs sl d 145 20 [l0, l1] [] H1 r := q_putf (mo_145 17 rfl) mow_145 rfl rfl (by decide +kernel) rfl
theorem r145_20 : Runs xs sl d 145 20 [some (.ref a0), l1] [] H r ↔ Runs xs sl d 145 21 [some (.ref a0), l1] [.ref a0] H r := q_aload_n (mo_145 20 rfl) rfl rfl
theorem r145_21 : Runs xs sl d 145 21 [l0, l1] [s0] H r ↔ Runs xs sl d 145 22 [l0, l1] [.int 2, s0] H r := q_iconst (mo_145 21 rfl) rfl rfl
theorem r145_22 (h : ¬ (u1 < 0 ∨ 100000 < u1.toNatClampNeg)) : Runs xs sl d 145 22 [l0, l1] [.int u1, s0] H r ↔ Runs xs sl d 145 25 [l0, l1] [.ref H.2.1, s0] (mnew H (mQ 6 u1.toNatClampNeg (fun _ => none)) u1.toNatClampNeg) r := q_anewa (mo_145 22 rfl) mow_145 rfl rfl rfl h
theorem r145_25 : Runs xs sl d 145 25 [l0, l1] [.ref b1, .ref b0] H r ↔ ∃ H1, hOw H b0 7 2 (.ref b1) = some H1 ∧ Runs xs sl d 145 28 [l0, l1] [] H1 r := q_putf (mo_145 25 rfl) mow_145 rfl rfl (by decide +kernel) rfl
theorem r145_28 : Runs xs sl d 145 28 [some (.ref a0), l1] [] H r ↔ Runs xs sl d 145 29 [some (.ref a0), l1] [.ref a0] H r := q_aload_n (mo_145 28 rfl) rfl rfl
theorem r145_29 : Runs xs sl d 145 29 [l0, l1] [s0] H r ↔ Runs xs sl d 145 30 [l0, l1] [.int 3, s0] H r := q_iconst (mo_145 29 rfl) rfl rfl
theorem r145_30 (h : ¬ (u1 < 0 ∨ 100000 < u1.toNatClampNeg)) : Runs xs sl d 145 30 [l0, l1] [.int u1, s0] H r ↔ Runs xs sl d 145 32 [l0, l1] [.ref H.2.1, s0] (mnew H (mI 0 u1.toNatClampNeg (fun _ => 0)) u1.toNatClampNeg) r := q_newa_int (mo_145 30 rfl) rfl h
theorem r145_32 : Runs xs sl d 145 32 [l0, l1] [.ref b1, .ref b0] H r ↔ ∃ H1, hOw H b0 7 3 (.ref b1) = some H1 ∧ Runs xs sl d 145 35 [l0, l1] [] H1 r := q_putf (mo_145 32 rfl) mow_145 rfl rfl (by decide +kernel) rfl
theorem r145_35 : Runs xs sl d 145 35 [some (.ref a0), l1] [] H r ↔ Runs xs sl d 145 36 [some (.ref a0), l1] [.ref a0] H r := q_aload_n (mo_145 35 rfl) rfl rfl
theorem r145_36 : Runs xs sl d 145 36 [l0, l1] [s0] H r ↔ Runs xs sl d 145 39 [l0, l1] [.int 600, s0] H r := q_sipush (mo_145 36 rfl) rfl rfl
theorem r145_39 (h : ¬ (u1 < 0 ∨ 100000 < u1.toNatClampNeg)) : Runs xs sl d 145 39 [l0, l1] [.int u1, s0] H r ↔ Runs xs sl d 145 41 [l0, l1] [.ref H.2.1, s0] (mnew H (mI 1 u1.toNatClampNeg (fun _ => 0)) u1.toNatClampNeg) r := q_newa_byte (mo_145 39 rfl) rfl h
theorem r145_41 : Runs xs sl d 145 41 [l0, l1] [.ref b1, .ref b0] H r ↔ ∃ H1, hOw H b0 7 4 (.ref b1) = some H1 ∧ Runs xs sl d 145 44 [l0, l1] [] H1 r := q_putf (mo_145 41 rfl) mow_145 rfl rfl (by decide +kernel) rfl
theorem r145_44 : Runs xs sl d 145 44 [some (.ref a0), l1] [] H r ↔ Runs xs sl d 145 45 [some (.ref a0), l1] [.ref a0] H r := q_aload_n (mo_145 44 rfl) rfl rfl
theorem r145_45 : Runs xs sl d 145 45 [l0, l1] [s0] H r ↔ Runs xs sl d 145 46 [l0, l1] [.int (-1), s0] H r := q_iconst (mo_145 45 rfl) rfl rfl
theorem r145_46 : Runs xs sl d 145 46 [l0, l1] [.int u1, .ref b0] H r ↔ ∃ H1, hOw H b0 7 7 (.int u1) = some H1 ∧ Runs xs sl d 145 49 [l0, l1] [] H1 r := q_putf (mo_145 46 rfl) mow_145 rfl rfl (by decide +kernel) rfl
theorem r145_49 : Runs xs sl d 145 49 [l0, l1] [] H r ↔ Runs xs sl d 145 50 [l0, l1] [.int 0] H r := q_iconst (mo_145 49 rfl) rfl rfl
theorem r145_50 : Runs xs sl d 145 50 [some (.ref a0), l1] [.int u0] H r ↔ Runs xs sl d 145 51 [some (.ref a0), some (.int u0)] [] H r := q_istore_n (mo_145 50 rfl) (Nat.le_of_ble_eq_true rfl) rfl rfl
theorem r145_50_1 : Runs xs sl d 145 50 [some .null, l1] [.int u0] H r ↔ Runs xs sl d 145 51 [some .null, some (.int u0)] [] H r := q_istore_n (mo_145 50 rfl) (Nat.le_of_ble_eq_true rfl) rfl rfl
theorem r145_51 : Runs xs sl d 145 51 [l0, some (.int i1)] [] H r ↔ Runs xs sl d 145 52 [l0, some (.int i1)] [.int i1] H r := q_iload_n (mo_145 51 rfl) rfl rfl
theorem r145_52 : Runs xs sl d 145 52 [l0, l1] [s0] H r ↔ Runs xs sl d 145 53 [l0, l1] [.int 2, s0] H r := q_iconst (mo_145 52 rfl) rfl rfl
theorem r145_53 : Runs xs sl d 145 53 [l0, l1] [.int u1, .int u0] H r ↔ if u1 ≤ u0 then Runs xs sl d 145 101 [l0, l1] [] H r else Runs xs sl d 145 56 [l0, l1] [] H r := q_icmp_ge (mo_145 53 rfl) rfl rfl
theorem r145_56 : Runs xs sl d 145 56 [some (.ref a0), l1] [] H r ↔ Runs xs sl d 145 57 [some (.ref a0), l1] [.ref a0] H r := q_aload_n (mo_145 56 rfl) rfl rfl
theorem r145_57 : Runs xs sl d 145 57 [l0, l1] [.ref b0] H r ↔ ∃ v, hO H b0 7 0 = some v ∧ Runs xs sl d 145 60 [l0, l1] [v] H r := q_getf (mo_145 57 rfl) mow_145 rfl rfl
theorem r145_60 : Runs xs sl d 145 60 [l0, some (.int i1)] [s0] H r ↔ Runs xs sl d 145 61 [l0, some (.int i1)] [.int i1, s0] H r := q_iload_n (mo_145 60 rfl) rfl rfl
theorem r145_61 : Runs xs sl d 145 61 [l0, l1] [s1, s0] H r ↔ Runs xs sl d 145 64 [l0, l1] [.ref H.2.1, s1, s0] (mnew H (mO 8 (fun k => mdef (mTy 8 k))) 12) r := q_new (mo_145 61 rfl) mow_145 rfl rfl rfl
theorem r145_64 : Runs xs sl d 145 64 [l0, l1] [.ref b2, s1, s0] H r ↔ Runs xs sl d 145 65 [l0, l1] [.ref b2, .ref b2, s1, s0] H r := q_dup (mo_145 64 rfl) rfl rfl
theorem r145_65 : Runs xs sl (d + 1) 145 65 [l0, l1] [.ref b3, .ref b2, .int u1, .ref b0] H r ↔ ∃ v H1, Runs xs sl d 148 0 [some (.ref b3)] [] H (v, H1) ∧ Runs xs sl (d + 1) 145 68 [l0, l1] (v.toList ++ [.ref b2, .int u1, .ref b0]) H1 r := q_callI (M' := 148) (as := []) (rest := [.ref b2, .int u1, .ref b0]) (mo_145 65 rfl) mow_145 rfl mmx_148 rfl (Nat.le_of_ble_eq_true rfl) (Nat.le_of_ble_eq_true rfl) rfl rfl
theorem r145_68 : Runs xs sl d 145 68 [l0, l1] [.ref b2, .int u1, .ref b0] H r ↔ ∃ H1, hQw H b0 u1 b2 = some H1 ∧ Runs xs sl d 145 69 [l0, l1] [] H1 r := run_aast (mo_145 68 rfl) rfl
theorem r145_69 : Runs xs sl d 145 69 [some (.ref a0), l1] [] H r ↔ Runs xs sl d 145 70 [some (.ref a0), l1] [.ref a0] H r := q_aload_n (mo_145 69 rfl) rfl rfl
theorem r145_70 : Runs xs sl d 145 70 [l0, l1] [.ref b0] H r ↔ ∃ v, hO H b0 7 1 = some v ∧ Runs xs sl d 145 73 [l0, l1] [v] H r := q_getf (mo_145 70 rfl) mow_145 rfl rfl
theorem r145_73 : Runs xs sl d 145 73 [l0, some (.int i1)] [s0] H r ↔ Runs xs sl d 145 74 [l0, some (.int i1)] [.int i1, s0] H r := q_iload_n (mo_145 73 rfl) rfl rfl
theorem r145_74 : Runs xs sl d 145 74 [l0, l1] [s1, s0] H r ↔ Runs xs sl d 145 77 [l0, l1] [.ref H.2.1, s1, s0] (mnew H (mO 0 (fun k => mdef (mTy 0 k))) 2) r := q_new (mo_145 74 rfl) mow_145 rfl rfl rfl
theorem r145_77 : Runs xs sl d 145 77 [l0, l1] [.ref b2, s1, s0] H r ↔ Runs xs sl d 145 78 [l0, l1] [.ref b2, .ref b2, s1, s0] H r := q_dup (mo_145 77 rfl) rfl rfl
theorem r145_78 : Runs xs sl (d + 1) 145 78 [l0, l1] [.ref b3, .ref b2, .int u1, .ref b0] H r ↔ ∃ v H1, Runs xs sl d 46 0 [some (.ref b3)] [] H (v, H1) ∧ Runs xs sl (d + 1) 145 81 [l0, l1] (v.toList ++ [.ref b2, .int u1, .ref b0]) H1 r := q_callI (M' := 46) (as := []) (rest := [.ref b2, .int u1, .ref b0]) (mo_145 78 rfl) mow_145 rfl mmx_46 rfl (Nat.le_of_ble_eq_true rfl) (Nat.le_of_ble_eq_true rfl) rfl rfl
theorem r145_81 : Runs xs sl d 145 81 [l0, l1] [.ref b2, .int u1, .ref b0] H r ↔ ∃ H1, hQw H b0 u1 b2 = some H1 ∧ Runs xs sl d 145 82 [l0, l1] [] H1 r := run_aast (mo_145 81 rfl) rfl
theorem r145_82 : Runs xs sl d 145 82 [some (.ref a0), l1] [] H r ↔ Runs xs sl d 145 83 [some (.ref a0), l1] [.ref a0] H r := q_aload_n (mo_145 82 rfl) rfl rfl
theorem r145_83 : Runs xs sl d 145 83 [l0, l1] [.ref b0] H r ↔ ∃ v, hO H b0 7 2 = some v ∧ Runs xs sl d 145 86 [l0, l1] [v] H r := q_getf (mo_145 83 rfl) mow_145 rfl rfl
theorem r145_86 : Runs xs sl d 145 86 [l0, some (.int i1)] [s0] H r ↔ Runs xs sl d 145 87 [l0, some (.int i1)] [.int i1, s0] H r := q_iload_n (mo_145 86 rfl) rfl rfl
theorem r145_87 : Runs xs sl d 145 87 [l0, l1] [s1, s0] H r ↔ Runs xs sl d 145 90 [l0, l1] [.ref H.2.1, s1, s0] (mnew H (mO 4 (fun k => mdef (mTy 4 k))) 4) r := q_new (mo_145 87 rfl) mow_145 rfl rfl rfl
theorem r145_90 : Runs xs sl d 145 90 [l0, l1] [.ref b2, s1, s0] H r ↔ Runs xs sl d 145 91 [l0, l1] [.ref b2, .ref b2, s1, s0] H r := q_dup (mo_145 90 rfl) rfl rfl
theorem r145_91 : Runs xs sl (d + 1) 145 91 [l0, l1] [.ref b3, .ref b2, .int u1, .ref b0] H r ↔ ∃ v H1, Runs xs sl d 81 0 [some (.ref b3)] [] H (v, H1) ∧ Runs xs sl (d + 1) 145 94 [l0, l1] (v.toList ++ [.ref b2, .int u1, .ref b0]) H1 r := q_callI (M' := 81) (as := []) (rest := [.ref b2, .int u1, .ref b0]) (mo_145 91 rfl) mow_145 rfl mmx_81 rfl (Nat.le_of_ble_eq_true rfl) (Nat.le_of_ble_eq_true rfl) rfl rfl
theorem r145_94 : Runs xs sl d 145 94 [l0, l1] [.ref b2, .int u1, .ref b0] H r ↔ ∃ H1, hQw H b0 u1 b2 = some H1 ∧ Runs xs sl d 145 95 [l0, l1] [] H1 r := run_aast (mo_145 94 rfl) rfl
theorem r145_95 : Runs xs sl d 145 95 [some (.ref a0), some (.int i1)] [] H r ↔ Runs xs sl d 145 98 [some (.ref a0), some (.int (i1 + 1))] [] H r := q_iinc (mo_145 95 rfl) rfl (Nat.le_of_ble_eq_true rfl) rfl rfl
theorem r145_95_1 : Runs xs sl d 145 95 [some .null, some (.int i1)] [] H r ↔ Runs xs sl d 145 98 [some .null, some (.int (i1 + 1))] [] H r := q_iinc (mo_145 95 rfl) rfl (Nat.le_of_ble_eq_true rfl) rfl rfl
theorem r145_98 : Runs xs sl d 145 98 [l0, l1] [] H r ↔ Runs xs sl d 145 51 [l0, l1] [] H r := q_goto (mo_145 98 rfl) rfl
theorem r145_101 : Runs xs sl d 145 101 [l0, l1] [] H r ↔ r = (none, H) := q_ret (mo_145 101 rfl) mrt_145
theorem r146_0 : Runs xs sl d 146 0 [l0, l1, l2] [] H r ↔ Runs xs sl d 146 2 [l0, l1, l2] [.int 24] H r := q_bipush (mo_146 0 rfl) rfl rfl
theorem r146_2 : Runs xs sl d 146 2 [l0, some (.int i1), l2] [.int u0] H r ↔ Runs xs sl d 146 3 [l0, some (.int i1), some (.int u0)] [] H r := q_istore_n (mo_146 2 rfl) (Nat.le_of_ble_eq_true rfl) rfl rfl
theorem r146_3 : Runs xs sl d 146 3 [l0, l1, some (.int i2)] [] H r ↔ Runs xs sl d 146 4 [l0, l1, some (.int i2)] [.int i2] H r := q_iload_n (mo_146 3 rfl) rfl rfl
theorem r146_4 : Runs xs sl d 146 4 [l0, l1, l2] [.int u0] H r ↔ if u0 < 0 then Runs xs sl d 146 46 [l0, l1, l2] [] H r else Runs xs sl d 146 7 [l0, l1, l2] [] H r := q_if_lt (mo_146 4 rfl) rfl rfl
theorem r146_7 : Runs xs sl d 146 7 [some (.ref a0), l1, l2] [] H r ↔ Runs xs sl d 146 8 [some (.ref a0), l1, l2] [.ref a0] H r := q_aload_n (mo_146 7 rfl) rfl rfl
theorem r146_8 : Runs xs sl d 146 8 [l0, l1, l2] [.ref b0] H r ↔ ∃ v, hO H b0 7 5 = some v ∧ Runs xs sl d 146 11 [l0, l1, l2] [v] H r := q_getf (mo_146 8 rfl) mow_146 rfl rfl
theorem r146_11 : Runs xs sl d 146 11 [l0, l1, l2] [s0] H r ↔ Runs xs sl d 146 14 [l0, l1, l2] [.int 600, s0] H r := q_sipush (mo_146 11 rfl) rfl rfl
theorem r146_14 : Runs xs sl d 146 14 [l0, l1, l2] [.int u1, .int u0] H r ↔ if u1 ≤ u0 then Runs xs sl d 146 46 [l0, l1, l2] [] H r else Runs xs sl d 146 17 [l0, l1, l2] [] H r := q_icmp_ge (mo_146 14 rfl) rfl rfl
theorem r146_17 : Runs xs sl d 146 17 [some (.ref a0), l1, l2] [] H r ↔ Runs xs sl d 146 18 [some (.ref a0), l1, l2] [.ref a0] H r := q_aload_n (mo_146 17 rfl) rfl rfl
theorem r146_18 : Runs xs sl d 146 18 [l0, l1, l2] [.ref b0] H r ↔ ∃ v, hO H b0 7 4 = some v ∧ Runs xs sl d 146 21 [l0, l1, l2] [v] H r := q_getf (mo_146 18 rfl) mow_146 rfl rfl
theorem r146_21 : Runs xs sl d 146 21 [some (.ref a0), l1, l2] [s0] H r ↔ Runs xs sl d 146 22 [some (.ref a0), l1, l2] [.ref a0, s0] H r := q_aload_n (mo_146 21 rfl) rfl rfl
theorem r146_22 : Runs xs sl d 146 22 [l0, l1, l2] [.ref b1, s0] H r ↔ ∃ v, hO H b1 7 5 = some v ∧ Runs xs sl d 146 25 [l0, l1, l2] [v, s0] H r := q_getf (mo_146 22 rfl) mow_146 rfl rfl
theorem r146_25 : Runs xs sl d 146 25 [l0, some (.int i1), l2] [s1, s0] H r ↔ Runs xs sl d 146 26 [l0, some (.int i1), l2] [.int i1, s1, s0] H r := q_iload_n (mo_146 25 rfl) rfl rfl
theorem r146_26 : Runs xs sl d 146 26 [l0, l1, some (.int i2)] [s2, s1, s0] H r ↔ Runs xs sl d 146 27 [l0, l1, some (.int i2)] [.int i2, s2, s1, s0] H r := q_iload_n (mo_146 26 rfl) rfl rfl
theorem r146_27 : Runs xs sl d 146 27 [l0, l1, l2] [.int u3, .int u2, s1, s0] H r ↔ Runs xs sl d 146 28 [l0, l1, l2] [.int (u2 >>> (u3 &&& 31)), s1, s0] H r := q_ishr (mo_146 27 rfl) rfl
theorem r146_28 : Runs xs sl d 146 28 [l0, l1, l2] [.int u2, s1, s0] H r ↔ Runs xs sl d 146 29 [l0, l1, l2] [.int u2.toInt8.toInt32, s1, s0] H r := q_i2b (mo_146 28 rfl) rfl
theorem r146_29 : Runs xs sl d 146 29 [l0, l1, l2] [.int u2, .int u1, .ref b0] H r ↔ ∃ H1, hBw H b0 u1 u2 = some H1 ∧ Runs xs sl d 146 30 [l0, l1, l2] [] H1 r := run_bast (mo_146 29 rfl) rfl
theorem r146_30 : Runs xs sl d 146 30 [some (.ref a0), l1, l2] [] H r ↔ Runs xs sl d 146 31 [some (.ref a0), l1, l2] [.ref a0] H r := q_aload_n (mo_146 30 rfl) rfl rfl
theorem r146_31 : Runs xs sl d 146 31 [l0, l1, l2] [.ref b0] H r ↔ Runs xs sl d 146 32 [l0, l1, l2] [.ref b0, .ref b0] H r := q_dup (mo_146 31 rfl) rfl rfl
theorem r146_32 : Runs xs sl d 146 32 [l0, l1, l2] [.ref b1, s0] H r ↔ ∃ v, hO H b1 7 5 = some v ∧ Runs xs sl d 146 35 [l0, l1, l2] [v, s0] H r := q_getf (mo_146 32 rfl) mow_146 rfl rfl
theorem r146_35 : Runs xs sl d 146 35 [l0, l1, l2] [s1, s0] H r ↔ Runs xs sl d 146 36 [l0, l1, l2] [.int 1, s1, s0] H r := q_iconst (mo_146 35 rfl) rfl rfl
theorem r146_36 : Runs xs sl d 146 36 [l0, l1, l2] [.int u2, .int u1, s0] H r ↔ Runs xs sl d 146 37 [l0, l1, l2] [.int (u1 + u2), s0] H r := q_iadd (mo_146 36 rfl) rfl
theorem r146_37 : Runs xs sl d 146 37 [l0, l1, l2] [.int u1, .ref b0] H r ↔ ∃ H1, hOw H b0 7 5 (.int u1) = some H1 ∧ Runs xs sl d 146 40 [l0, l1, l2] [] H1 r := q_putf (mo_146 37 rfl) mow_146 rfl rfl (by decide +kernel) rfl
theorem r146_40 : Runs xs sl d 146 40 [l0, some (.int i1), some (.int i2)] [] H r ↔ Runs xs sl d 146 43 [l0, some (.int i1), some (.int (i2 + (-8)))] [] H r := q_iinc (mo_146 40 rfl) rfl (Nat.le_of_ble_eq_true rfl) rfl rfl
theorem r146_43 : Runs xs sl d 146 43 [l0, l1, l2] [] H r ↔ Runs xs sl d 146 3 [l0, l1, l2] [] H r := q_goto (mo_146 43 rfl) rfl
theorem r146_46 : Runs xs sl d 146 46 [l0, l1, l2] [] H r ↔ r = (none, H) := q_ret (mo_146 46 rfl) mrt_146
theorem r147_0 : Runs xs sl d 147 0 [l0, l1, l2] [] H r ↔ Runs xs sl d 147 1 [l0, l1, l2] [.int 0] H r := q_iconst (mo_147 0 rfl) rfl rfl
theorem r147_1 : Runs xs sl d 147 1 [l0, some (.ref a1), l2] [.int u0] H r ↔ Runs xs sl d 147 2 [l0, some (.ref a1), some (.int u0)] [] H r := q_istore_n (mo_147 1 rfl) (Nat.le_of_ble_eq_true rfl) rfl rfl
theorem r147_1_1 : Runs xs sl d 147 1 [l0, some .null, l2] [.int u0] H r ↔ Runs xs sl d 147 2 [l0, some .null, some (.int u0)] [] H r := q_istore_n (mo_147 1 rfl) (Nat.le_of_ble_eq_true rfl) rfl rfl
theorem r147_2 : Runs xs sl d 147 2 [l0, l1, some (.int i2)] [] H r ↔ Runs xs sl d 147 3 [l0, l1, some (.int i2)] [.int i2] H r := q_iload_n (mo_147 2 rfl) rfl rfl
theorem r147_3 : Runs xs sl d 147 3 [l0, l1, l2] [s0] H r ↔ Runs xs sl d 147 4 [l0, l1, l2] [.int 2, s0] H r := q_iconst (mo_147 3 rfl) rfl rfl
theorem r147_4 : Runs xs sl d 147 4 [l0, l1, l2] [.int u1, .int u0] H r ↔ if u1 ≤ u0 then Runs xs sl d 147 58 [l0, l1, l2] [] H r else Runs xs sl d 147 7 [l0, l1, l2] [] H r := q_icmp_ge (mo_147 4 rfl) rfl rfl
theorem r147_7 : Runs xs sl d 147 7 [some (.ref a0), l1, l2] [] H r ↔ Runs xs sl d 147 8 [some (.ref a0), l1, l2] [.ref a0] H r := q_aload_n (mo_147 7 rfl) rfl rfl
theorem r147_8 : Runs xs sl d 147 8 [l0, l1, l2] [.ref b0] H r ↔ ∃ v, hO H b0 7 0 = some v ∧ Runs xs sl d 147 11 [l0, l1, l2] [v] H r := q_getf (mo_147 8 rfl) mow_147 rfl rfl
theorem r147_11 : Runs xs sl d 147 11 [l0, l1, some (.int i2)] [s0] H r ↔ Runs xs sl d 147 12 [l0, l1, some (.int i2)] [.int i2, s0] H r := q_iload_n (mo_147 11 rfl) rfl rfl
theorem r147_12 : Runs xs sl d 147 12 [l0, l1, l2] [.int u1, .ref b0] H r ↔ ∃ v, hQ H b0 u1 = some v ∧ Runs xs sl d 147 13 [l0, l1, l2] [v] H r := run_aald (mo_147 12 rfl) rfl
theorem r147_13 : Runs xs sl d 147 13 [l0, some (.ref a1), l2] [s0] H r ↔ Runs xs sl d 147 14 [l0, some (.ref a1), l2] [.ref a1, s0] H r := q_aload_n (mo_147 13 rfl) rfl rfl
theorem r147_13n : Runs xs sl d 147 13 [l0, some .null, l2] [s0] H r ↔ Runs xs sl d 147 14 [l0, some .null, l2] [.null, s0] H r := q_aload_nN (mo_147 13 rfl) rfl rfl
theorem r147_14 : Runs xs sl d 147 14 [l0, l1, l2] [.ref b1, s0] H r ↔ ∃ v, hO H b1 7 0 = some v ∧ Runs xs sl d 147 17 [l0, l1, l2] [v, s0] H r := q_getf (mo_147 14 rfl) mow_147 rfl rfl
theorem r147_17 : Runs xs sl d 147 17 [l0, l1, some (.int i2)] [s1, s0] H r ↔ Runs xs sl d 147 18 [l0, l1, some (.int i2)] [.int i2, s1, s0] H r := q_iload_n (mo_147 17 rfl) rfl rfl
theorem r147_18 : Runs xs sl d 147 18 [l0, l1, l2] [.int u2, .ref b1, s0] H r ↔ ∃ v, hQ H b1 u2 = some v ∧ Runs xs sl d 147 19 [l0, l1, l2] [v, s0] H r := run_aald (mo_147 18 rfl) rfl
theorem r147_19 (hc : hC H b0 = some 8) : Runs xs sl (d + 1) 147 19 [l0, l1, l2] [.ref b1, .ref b0] H r ↔ ∃ v H1, Runs xs sl d 150 0 [some (.ref b0), some (.ref b1)] [] H (v, H1) ∧ Runs xs sl (d + 1) 147 22 [l0, l1, l2] (v.toList ++ []) H1 r := q_callV (M' := 150) (as := [.ref b1]) (rest := []) (mo_147 19 rfl) mow_147 rfl mcs_150 mmx_150 rfl (Nat.le_of_ble_eq_true rfl) (Nat.le_of_ble_eq_true rfl) rfl rfl hc
theorem r147_22 : Runs xs sl d 147 22 [some (.ref a0), l1, l2] [] H r ↔ Runs xs sl d 147 23 [some (.ref a0), l1, l2] [.ref a0] H r := q_aload_n (mo_147 22 rfl) rfl rfl
theorem r147_23 : Runs xs sl d 147 23 [l0, l1, l2] [.ref b0] H r ↔ ∃ v, hO H b0 7 1 = some v ∧ Runs xs sl d 147 26 [l0, l1, l2] [v] H r := q_getf (mo_147 23 rfl) mow_147 rfl rfl
theorem r147_26 : Runs xs sl d 147 26 [l0, l1, some (.int i2)] [s0] H r ↔ Runs xs sl d 147 27 [l0, l1, some (.int i2)] [.int i2, s0] H r := q_iload_n (mo_147 26 rfl) rfl rfl
theorem r147_27 : Runs xs sl d 147 27 [l0, l1, l2] [.int u1, .ref b0] H r ↔ ∃ v, hQ H b0 u1 = some v ∧ Runs xs sl d 147 28 [l0, l1, l2] [v] H r := run_aald (mo_147 27 rfl) rfl
theorem r147_28 : Runs xs sl d 147 28 [l0, some (.ref a1), l2] [s0] H r ↔ Runs xs sl d 147 29 [l0, some (.ref a1), l2] [.ref a1, s0] H r := q_aload_n (mo_147 28 rfl) rfl rfl
theorem r147_28n : Runs xs sl d 147 28 [l0, some .null, l2] [s0] H r ↔ Runs xs sl d 147 29 [l0, some .null, l2] [.null, s0] H r := q_aload_nN (mo_147 28 rfl) rfl rfl
theorem r147_29 : Runs xs sl d 147 29 [l0, l1, l2] [.ref b1, s0] H r ↔ ∃ v, hO H b1 7 1 = some v ∧ Runs xs sl d 147 32 [l0, l1, l2] [v, s0] H r := q_getf (mo_147 29 rfl) mow_147 rfl rfl
theorem r147_32 : Runs xs sl d 147 32 [l0, l1, some (.int i2)] [s1, s0] H r ↔ Runs xs sl d 147 33 [l0, l1, some (.int i2)] [.int i2, s1, s0] H r := q_iload_n (mo_147 32 rfl) rfl rfl
theorem r147_33 : Runs xs sl d 147 33 [l0, l1, l2] [.int u2, .ref b1, s0] H r ↔ ∃ v, hQ H b1 u2 = some v ∧ Runs xs sl d 147 34 [l0, l1, l2] [v, s0] H r := run_aald (mo_147 33 rfl) rfl
theorem r147_34 (hc : hC H b0 = some 0) : Runs xs sl (d + 1) 147 34 [l0, l1, l2] [.ref b1, .ref b0] H r ↔ ∃ v H1, Runs xs sl d 48 0 [some (.ref b0), some (.ref b1)] [] H (v, H1) ∧ Runs xs sl (d + 1) 147 37 [l0, l1, l2] (v.toList ++ []) H1 r := q_callV (M' := 48) (as := [.ref b1]) (rest := []) (mo_147 34 rfl) mow_147 rfl mcs_48 mmx_48 rfl (Nat.le_of_ble_eq_true rfl) (Nat.le_of_ble_eq_true rfl) rfl rfl hc
theorem r147_37 : Runs xs sl d 147 37 [some (.ref a0), l1, l2] [] H r ↔ Runs xs sl d 147 38 [some (.ref a0), l1, l2] [.ref a0] H r := q_aload_n (mo_147 37 rfl) rfl rfl
theorem r147_38 : Runs xs sl d 147 38 [l0, l1, l2] [.ref b0] H r ↔ ∃ v, hO H b0 7 2 = some v ∧ Runs xs sl d 147 41 [l0, l1, l2] [v] H r := q_getf (mo_147 38 rfl) mow_147 rfl rfl
theorem r147_41 : Runs xs sl d 147 41 [l0, l1, some (.int i2)] [s0] H r ↔ Runs xs sl d 147 42 [l0, l1, some (.int i2)] [.int i2, s0] H r := q_iload_n (mo_147 41 rfl) rfl rfl
theorem r147_42 : Runs xs sl d 147 42 [l0, l1, l2] [.int u1, .ref b0] H r ↔ ∃ v, hQ H b0 u1 = some v ∧ Runs xs sl d 147 43 [l0, l1, l2] [v] H r := run_aald (mo_147 42 rfl) rfl
theorem r147_43 : Runs xs sl d 147 43 [l0, some (.ref a1), l2] [s0] H r ↔ Runs xs sl d 147 44 [l0, some (.ref a1), l2] [.ref a1, s0] H r := q_aload_n (mo_147 43 rfl) rfl rfl
theorem r147_43n : Runs xs sl d 147 43 [l0, some .null, l2] [s0] H r ↔ Runs xs sl d 147 44 [l0, some .null, l2] [.null, s0] H r := q_aload_nN (mo_147 43 rfl) rfl rfl
theorem r147_44 : Runs xs sl d 147 44 [l0, l1, l2] [.ref b1, s0] H r ↔ ∃ v, hO H b1 7 2 = some v ∧ Runs xs sl d 147 47 [l0, l1, l2] [v, s0] H r := q_getf (mo_147 44 rfl) mow_147 rfl rfl
theorem r147_47 : Runs xs sl d 147 47 [l0, l1, some (.int i2)] [s1, s0] H r ↔ Runs xs sl d 147 48 [l0, l1, some (.int i2)] [.int i2, s1, s0] H r := q_iload_n (mo_147 47 rfl) rfl rfl
theorem r147_48 : Runs xs sl d 147 48 [l0, l1, l2] [.int u2, .ref b1, s0] H r ↔ ∃ v, hQ H b1 u2 = some v ∧ Runs xs sl d 147 49 [l0, l1, l2] [v, s0] H r := run_aald (mo_147 48 rfl) rfl
theorem r147_49 (hc : hC H b0 = some 4) : Runs xs sl (d + 1) 147 49 [l0, l1, l2] [.ref b1, .ref b0] H r ↔ ∃ v H1, Runs xs sl d 83 0 [some (.ref b0), some (.ref b1)] [] H (v, H1) ∧ Runs xs sl (d + 1) 147 52 [l0, l1, l2] (v.toList ++ []) H1 r := q_callV (M' := 83) (as := [.ref b1]) (rest := []) (mo_147 49 rfl) mow_147 rfl mcs_83 mmx_83 rfl (Nat.le_of_ble_eq_true rfl) (Nat.le_of_ble_eq_true rfl) rfl rfl hc
theorem r147_52 : Runs xs sl d 147 52 [l0, some (.ref a1), some (.int i2)] [] H r ↔ Runs xs sl d 147 55 [l0, some (.ref a1), some (.int (i2 + 1))] [] H r := q_iinc (mo_147 52 rfl) rfl (Nat.le_of_ble_eq_true rfl) rfl rfl
theorem r147_52_1 : Runs xs sl d 147 52 [l0, some .null, some (.int i2)] [] H r ↔ Runs xs sl d 147 55 [l0, some .null, some (.int (i2 + 1))] [] H r := q_iinc (mo_147 52 rfl) rfl (Nat.le_of_ble_eq_true rfl) rfl rfl
theorem r147_55 : Runs xs sl d 147 55 [l0, l1, l2] [] H r ↔ Runs xs sl d 147 2 [l0, l1, l2] [] H r := q_goto (mo_147 55 rfl) rfl
theorem r147_58 : Runs xs sl d 147 58 [l0, some (.ref a1), l2] [] H r ↔ Runs xs sl d 147 59 [l0, some (.ref a1), l2] [.ref a1] H r := q_aload_n (mo_147 58 rfl) rfl rfl
theorem r147_58n : Runs xs sl d 147 58 [l0, some .null, l2] [] H r ↔ Runs xs sl d 147 59 [l0, some .null, l2] [.null] H r := q_aload_nN (mo_147 58 rfl) rfl rfl
theorem r147_59 : Runs xs sl d 147 59 [l0, l1, l2] [.ref b0] H r ↔ ∃ v, hO H b0 7 3 = some v ∧ Runs xs sl d 147 62 [l0, l1, l2] [v] H r := q_getf (mo_147 59 rfl) mow_147 rfl rfl
theorem r147_62 : Runs xs sl d 147 62 [l0, l1, l2] [s0] H r ↔ Runs xs sl d 147 63 [l0, l1, l2] [.int 0, s0] H r := q_iconst (mo_147 62 rfl) rfl rfl
theorem r147_63 : Runs xs sl d 147 63 [some (.ref a0), l1, l2] [s1, s0] H r ↔ Runs xs sl d 147 64 [some (.ref a0), l1, l2] [.ref a0, s1, s0] H r := q_aload_n (mo_147 63 rfl) rfl rfl
theorem r147_64 : Runs xs sl d 147 64 [l0, l1, l2] [.ref b2, s1, s0] H r ↔ ∃ v, hO H b2 7 3 = some v ∧ Runs xs sl d 147 67 [l0, l1, l2] [v, s1, s0] H r := q_getf (mo_147 64 rfl) mow_147 rfl rfl
theorem r147_67 : Runs xs sl d 147 67 [l0, l1, l2] [s2, s1, s0] H r ↔ Runs xs sl d 147 68 [l0, l1, l2] [.int 0, s2, s1, s0] H r := q_iconst (mo_147 67 rfl) rfl rfl
theorem r147_68 : Runs xs sl d 147 68 [l0, l1, l2] [s3, s2, s1, s0] H r ↔ Runs xs sl d 147 69 [l0, l1, l2] [.int 3, s3, s2, s1, s0] H r := q_iconst (mo_147 68 rfl) rfl rfl
theorem r147_69 : Runs xs sl (d + 1) 147 69 [l0, l1, l2] [.int u4, .int u3, .ref b2, .int u1, .ref b0] H r ↔ ∃ H1, hCp H b0 b2 u1 u3 u4 = some H1 ∧ Runs xs sl (d + 1) 147 72 [l0, l1, l2] [] H1 r := q_copy (mo_147 69 rfl) mow_147 rfl (Nat.le_of_ble_eq_true rfl) rfl
theorem r147_72 : Runs xs sl d 147 72 [l0, some (.ref a1), l2] [] H r ↔ Runs xs sl d 147 73 [l0, some (.ref a1), l2] [.ref a1] H r := q_aload_n (mo_147 72 rfl) rfl rfl
theorem r147_72n : Runs xs sl d 147 72 [l0, some .null, l2] [] H r ↔ Runs xs sl d 147 73 [l0, some .null, l2] [.null] H r := q_aload_nN (mo_147 72 rfl) rfl rfl
theorem r147_73 : Runs xs sl d 147 73 [l0, l1, l2] [.ref b0] H r ↔ ∃ v, hO H b0 7 4 = some v ∧ Runs xs sl d 147 76 [l0, l1, l2] [v] H r := q_getf (mo_147 73 rfl) mow_147 rfl rfl
theorem r147_76 : Runs xs sl d 147 76 [l0, l1, l2] [s0] H r ↔ Runs xs sl d 147 77 [l0, l1, l2] [.int 0, s0] H r := q_iconst (mo_147 76 rfl) rfl rfl
theorem r147_77 : Runs xs sl d 147 77 [some (.ref a0), l1, l2] [s1, s0] H r ↔ Runs xs sl d 147 78 [some (.ref a0), l1, l2] [.ref a0, s1, s0] H r := q_aload_n (mo_147 77 rfl) rfl rfl
theorem r147_78 : Runs xs sl d 147 78 [l0, l1, l2] [.ref b2, s1, s0] H r ↔ ∃ v, hO H b2 7 4 = some v ∧ Runs xs sl d 147 81 [l0, l1, l2] [v, s1, s0] H r := q_getf (mo_147 78 rfl) mow_147 rfl rfl
theorem r147_81 : Runs xs sl d 147 81 [l0, l1, l2] [s2, s1, s0] H r ↔ Runs xs sl d 147 82 [l0, l1, l2] [.int 0, s2, s1, s0] H r := q_iconst (mo_147 81 rfl) rfl rfl
theorem r147_82 : Runs xs sl d 147 82 [l0, l1, l2] [s3, s2, s1, s0] H r ↔ Runs xs sl d 147 85 [l0, l1, l2] [.int 600, s3, s2, s1, s0] H r := q_sipush (mo_147 82 rfl) rfl rfl
theorem r147_85 : Runs xs sl (d + 1) 147 85 [l0, l1, l2] [.int u4, .int u3, .ref b2, .int u1, .ref b0] H r ↔ ∃ H1, hCp H b0 b2 u1 u3 u4 = some H1 ∧ Runs xs sl (d + 1) 147 88 [l0, l1, l2] [] H1 r := q_copy (mo_147 85 rfl) mow_147 rfl (Nat.le_of_ble_eq_true rfl) rfl
theorem r147_88 : Runs xs sl d 147 88 [some (.ref a0), l1, l2] [] H r ↔ Runs xs sl d 147 89 [some (.ref a0), l1, l2] [.ref a0] H r := q_aload_n (mo_147 88 rfl) rfl rfl
theorem r147_89 : Runs xs sl d 147 89 [l0, some (.ref a1), l2] [s0] H r ↔ Runs xs sl d 147 90 [l0, some (.ref a1), l2] [.ref a1, s0] H r := q_aload_n (mo_147 89 rfl) rfl rfl
theorem r147_89n : Runs xs sl d 147 89 [l0, some .null, l2] [s0] H r ↔ Runs xs sl d 147 90 [l0, some .null, l2] [.null, s0] H r := q_aload_nN (mo_147 89 rfl) rfl rfl
theorem r147_90 : Runs xs sl d 147 90 [l0, l1, l2] [.ref b1, s0] H r ↔ ∃ v, hO H b1 7 5 = some v ∧ Runs xs sl d 147 93 [l0, l1, l2] [v, s0] H r := q_getf (mo_147 90 rfl) mow_147 rfl rfl
theorem r147_93 : Runs xs sl d 147 93 [l0, l1, l2] [.int u1, .ref b0] H r ↔ ∃ H1, hOw H b0 7 5 (.int u1) = some H1 ∧ Runs xs sl d 147 96 [l0, l1, l2] [] H1 r := q_putf (mo_147 93 rfl) mow_147 rfl rfl (by decide +kernel) rfl
theorem r147_96 : Runs xs sl d 147 96 [some (.ref a0), l1, l2] [] H r ↔ Runs xs sl d 147 97 [some (.ref a0), l1, l2] [.ref a0] H r := q_aload_n (mo_147 96 rfl) rfl rfl
theorem r147_97 : Runs xs sl d 147 97 [l0, some (.ref a1), l2] [s0] H r ↔ Runs xs sl d 147 98 [l0, some (.ref a1), l2] [.ref a1, s0] H r := q_aload_n (mo_147 97 rfl) rfl rfl
theorem r147_97n : Runs xs sl d 147 97 [l0, some .null, l2] [s0] H r ↔ Runs xs sl d 147 98 [l0, some .null, l2] [.null, s0] H r := q_aload_nN (mo_147 97 rfl) rfl rfl
theorem r147_98 : Runs xs sl d 147 98 [l0, l1, l2] [.ref b1, s0] H r ↔ ∃ v, hO H b1 7 6 = some v ∧ Runs xs sl d 147 101 [l0, l1, l2] [v, s0] H r := q_getf (mo_147 98 rfl) mow_147 rfl rfl
theorem r147_101 : Runs xs sl d 147 101 [l0, l1, l2] [.int u1, .ref b0] H r ↔ ∃ H1, hOw H b0 7 6 (.int u1) = some H1 ∧ Runs xs sl d 147 104 [l0, l1, l2] [] H1 r := q_putf (mo_147 101 rfl) mow_147 rfl rfl (by decide +kernel) rfl
theorem r147_104 : Runs xs sl d 147 104 [some (.ref a0), l1, l2] [] H r ↔ Runs xs sl d 147 105 [some (.ref a0), l1, l2] [.ref a0] H r := q_aload_n (mo_147 104 rfl) rfl rfl
theorem r147_105 : Runs xs sl d 147 105 [l0, some (.ref a1), l2] [s0] H r ↔ Runs xs sl d 147 106 [l0, some (.ref a1), l2] [.ref a1, s0] H r := q_aload_n (mo_147 105 rfl) rfl rfl
theorem r147_105n : Runs xs sl d 147 105 [l0, some .null, l2] [s0] H r ↔ Runs xs sl d 147 106 [l0, some .null, l2] [.null, s0] H r := q_aload_nN (mo_147 105 rfl) rfl rfl
theorem r147_106 : Runs xs sl d 147 106 [l0, l1, l2] [.ref b1, s0] H r ↔ ∃ v, hO H b1 7 7 = some v ∧ Runs xs sl d 147 109 [l0, l1, l2] [v, s0] H r := q_getf (mo_147 106 rfl) mow_147 rfl rfl
theorem r147_109 : Runs xs sl d 147 109 [l0, l1, l2] [.int u1, .ref b0] H r ↔ ∃ H1, hOw H b0 7 7 (.int u1) = some H1 ∧ Runs xs sl d 147 112 [l0, l1, l2] [] H1 r := q_putf (mo_147 109 rfl) mow_147 rfl rfl (by decide +kernel) rfl
theorem r147_112 : Runs xs sl d 147 112 [l0, l1, l2] [] H r ↔ r = (none, H) := q_ret (mo_147 112 rfl) mrt_147
theorem r148_0 : Runs xs sl d 148 0 [some (.ref a0)] [] H r ↔ Runs xs sl d 148 1 [some (.ref a0)] [.ref a0] H r := q_aload_n (mo_148 0 rfl) rfl rfl
theorem r148_1 : Runs xs sl (d + 1) 148 1 [l0] [.ref b0] H r ↔ ∃ v H1, Runs xs sl d 292 0 [some (.ref b0)] [] H (v, H1) ∧ Runs xs sl (d + 1) 148 4 [l0] (v.toList ++ []) H1 r := q_callI (M' := 292) (as := []) (rest := []) (mo_148 1 rfl) mow_148 rfl mmx_292 rfl (Nat.le_of_ble_eq_true rfl) (Nat.le_of_ble_eq_true rfl) rfl rfl
theorem r148_4 : Runs xs sl d 148 4 [some (.ref a0)] [] H r ↔ Runs xs sl d 148 5 [some (.ref a0)] [.ref a0] H r := q_aload_n (mo_148 4 rfl) rfl rfl
theorem r148_5 : Runs xs sl d 148 5 [l0] [s0] H r ↔ Runs xs sl d 148 6 [l0] [.int 3, s0] H r := q_iconst (mo_148 5 rfl) rfl rfl
theorem r148_6 : Runs xs sl d 148 6 [l0] [.int u1, .ref b0] H r ↔ ∃ H1, hOw H b0 8 0 (.int u1) = some H1 ∧ Runs xs sl d 148 9 [l0] [] H1 r := q_putf (mo_148 6 rfl) mow_148 rfl rfl (by decide +kernel) rfl
theorem r148_9 : Runs xs sl d 148 9 [some (.ref a0)] [] H r ↔ Runs xs sl d 148 10 [some (.ref a0)] [.ref a0] H r := q_aload_n (mo_148 9 rfl) rfl rfl
theorem r148_10 : Runs xs sl d 148 10 [l0] [s0] H r ↔ Runs xs sl d 148 11 [l0] [.int 3, s0] H r := q_iconst (mo_148 10 rfl) rfl rfl
theorem r148_11 : Runs xs sl d 148 11 [l0] [.int u1, .ref b0] H r ↔ ∃ H1, hOw H b0 8 1 (.int u1) = some H1 ∧ Runs xs sl d 148 14 [l0] [] H1 r := q_putf (mo_148 11 rfl) mow_148 rfl rfl (by decide +kernel) rfl
theorem r148_14 : Runs xs sl d 148 14 [some (.ref a0)] [] H r ↔ Runs xs sl d 148 15 [some (.ref a0)] [.ref a0] H r := q_aload_n (mo_148 14 rfl) rfl rfl
theorem r148_15 : Runs xs sl d 148 15 [l0] [s0] H r ↔ Runs xs sl d 148 17 [l0] [.int 8, s0] H r := q_bipush (mo_148 15 rfl) rfl rfl
theorem r148_17 (h : ¬ (u1 < 0 ∨ 100000 < u1.toNatClampNeg)) : Runs xs sl d 148 17 [l0] [.int u1, s0] H r ↔ Runs xs sl d 148 19 [l0] [.ref H.2.1, s0] (mnew H (mI 0 u1.toNatClampNeg (fun _ => 0)) u1.toNatClampNeg) r := q_newa_int (mo_148 17 rfl) rfl h
theorem r148_19 : Runs xs sl d 148 19 [l0] [.ref b1, .ref b0] H r ↔ ∃ H1, hOw H b0 8 5 (.ref b1) = some H1 ∧ Runs xs sl d 148 22 [l0] [] H1 r := q_putf (mo_148 19 rfl) mow_148 rfl rfl (by decide +kernel) rfl
theorem r148_22 : Runs xs sl d 148 22 [some (.ref a0)] [] H r ↔ Runs xs sl d 148 23 [some (.ref a0)] [.ref a0] H r := q_aload_n (mo_148 22 rfl) rfl rfl
theorem r148_23 : Runs xs sl d 148 23 [l0] [s0] H r ↔ Runs xs sl d 148 25 [l0] [.int 8, s0] H r := q_bipush (mo_148 23 rfl) rfl rfl
theorem r148_25 (h : ¬ (u1 < 0 ∨ 100000 < u1.toNatClampNeg)) : Runs xs sl d 148 25 [l0] [.int u1, s0] H r ↔ Runs xs sl d 148 27 [l0] [.ref H.2.1, s0] (mnew H (mI 0 u1.toNatClampNeg (fun _ => 0)) u1.toNatClampNeg) r := q_newa_int (mo_148 25 rfl) rfl h
theorem r148_27 : Runs xs sl d 148 27 [l0] [.ref b1, .ref b0] H r ↔ ∃ H1, hOw H b0 8 6 (.ref b1) = some H1 ∧ Runs xs sl d 148 30 [l0] [] H1 r := q_putf (mo_148 27 rfl) mow_148 rfl rfl (by decide +kernel) rfl
theorem r148_30 : Runs xs sl d 148 30 [some (.ref a0)] [] H r ↔ Runs xs sl d 148 31 [some (.ref a0)] [.ref a0] H r := q_aload_n (mo_148 30 rfl) rfl rfl
theorem r148_31 : Runs xs sl d 148 31 [l0] [s0] H r ↔ Runs xs sl d 148 33 [l0] [.int 8, s0] H r := q_bipush (mo_148 31 rfl) rfl rfl
theorem r148_33 (h : ¬ (u1 < 0 ∨ 100000 < u1.toNatClampNeg)) : Runs xs sl d 148 33 [l0] [.int u1, s0] H r ↔ Runs xs sl d 148 35 [l0] [.ref H.2.1, s0] (mnew H (mI 0 u1.toNatClampNeg (fun _ => 0)) u1.toNatClampNeg) r := q_newa_int (mo_148 33 rfl) rfl h
theorem r148_35 : Runs xs sl d 148 35 [l0] [.ref b1, .ref b0] H r ↔ ∃ H1, hOw H b0 8 7 (.ref b1) = some H1 ∧ Runs xs sl d 148 38 [l0] [] H1 r := q_putf (mo_148 35 rfl) mow_148 rfl rfl (by decide +kernel) rfl
theorem r148_38 : Runs xs sl d 148 38 [some (.ref a0)] [] H r ↔ Runs xs sl d 148 39 [some (.ref a0)] [.ref a0] H r := q_aload_n (mo_148 38 rfl) rfl rfl
theorem r148_39 : Runs xs sl d 148 39 [l0] [s0] H r ↔ Runs xs sl d 148 41 [l0] [.int 48, s0] H r := q_bipush (mo_148 39 rfl) rfl rfl
theorem r148_41 (h : ¬ (u1 < 0 ∨ 100000 < u1.toNatClampNeg)) : Runs xs sl d 148 41 [l0] [.int u1, s0] H r ↔ Runs xs sl d 148 43 [l0] [.ref H.2.1, s0] (mnew H (mI 0 u1.toNatClampNeg (fun _ => 0)) u1.toNatClampNeg) r := q_newa_int (mo_148 41 rfl) rfl h
theorem r148_43 : Runs xs sl d 148 43 [l0] [.ref b1, .ref b0] H r ↔ ∃ H1, hOw H b0 8 8 (.ref b1) = some H1 ∧ Runs xs sl d 148 46 [l0] [] H1 r := q_putf (mo_148 43 rfl) mow_148 rfl rfl (by decide +kernel) rfl
theorem r148_46 : Runs xs sl d 148 46 [some (.ref a0)] [] H r ↔ Runs xs sl d 148 47 [some (.ref a0)] [.ref a0] H r := q_aload_n (mo_148 46 rfl) rfl rfl
theorem r148_47 : Runs xs sl d 148 47 [l0] [s0] H r ↔ Runs xs sl d 148 49 [l0] [.int 36, s0] H r := q_bipush (mo_148 47 rfl) rfl rfl
theorem r148_49 (h : ¬ (u1 < 0 ∨ 100000 < u1.toNatClampNeg)) : Runs xs sl d 148 49 [l0] [.int u1, s0] H r ↔ Runs xs sl d 148 51 [l0] [.ref H.2.1, s0] (mnew H (mI 0 u1.toNatClampNeg (fun _ => 0)) u1.toNatClampNeg) r := q_newa_int (mo_148 49 rfl) rfl h
theorem r148_51 : Runs xs sl d 148 51 [l0] [.ref b1, .ref b0] H r ↔ ∃ H1, hOw H b0 8 9 (.ref b1) = some H1 ∧ Runs xs sl d 148 54 [l0] [] H1 r := q_putf (mo_148 51 rfl) mow_148 rfl rfl (by decide +kernel) rfl
theorem r148_54 : Runs xs sl d 148 54 [some (.ref a0)] [] H r ↔ Runs xs sl d 148 55 [some (.ref a0)] [.ref a0] H r := q_aload_n (mo_148 54 rfl) rfl rfl
theorem r148_55 : Runs xs sl d 148 55 [l0] [s0] H r ↔ Runs xs sl d 148 57 [l0] [.int 8, s0] H r := q_bipush (mo_148 55 rfl) rfl rfl
theorem r148_57 (h : ¬ (u1 < 0 ∨ 100000 < u1.toNatClampNeg)) : Runs xs sl d 148 57 [l0] [.int u1, s0] H r ↔ Runs xs sl d 148 59 [l0] [.ref H.2.1, s0] (mnew H (mI 0 u1.toNatClampNeg (fun _ => 0)) u1.toNatClampNeg) r := q_newa_int (mo_148 57 rfl) rfl h
theorem r148_59 : Runs xs sl d 148 59 [l0] [.ref b1, .ref b0] H r ↔ ∃ H1, hOw H b0 8 10 (.ref b1) = some H1 ∧ Runs xs sl d 148 62 [l0] [] H1 r := q_putf (mo_148 59 rfl) mow_148 rfl rfl (by decide +kernel) rfl
theorem r148_62 : Runs xs sl d 148 62 [some (.ref a0)] [] H r ↔ Runs xs sl d 148 63 [some (.ref a0)] [.ref a0] H r := q_aload_n (mo_148 62 rfl) rfl rfl
theorem r148_63 : Runs xs sl d 148 63 [l0] [s0] H r ↔ Runs xs sl d 148 65 [l0] [.int 8, s0] H r := q_bipush (mo_148 63 rfl) rfl rfl
theorem r148_65 (h : ¬ (u1 < 0 ∨ 100000 < u1.toNatClampNeg)) : Runs xs sl d 148 65 [l0] [.int u1, s0] H r ↔ Runs xs sl d 148 67 [l0] [.ref H.2.1, s0] (mnew H (mI 0 u1.toNatClampNeg (fun _ => 0)) u1.toNatClampNeg) r := q_newa_int (mo_148 65 rfl) rfl h
theorem r148_67 : Runs xs sl d 148 67 [l0] [.ref b1, .ref b0] H r ↔ ∃ H1, hOw H b0 8 11 (.ref b1) = some H1 ∧ Runs xs sl d 148 70 [l0] [] H1 r := q_putf (mo_148 67 rfl) mow_148 rfl rfl (by decide +kernel) rfl
theorem r148_70 : Runs xs sl d 148 70 [l0] [] H r ↔ r = (none, H) := q_ret (mo_148 70 rfl) mrt_148
theorem r149_0 : Runs xs sl d 149 0 [some (.ref a0)] [] H r ↔ Runs xs sl d 149 1 [some (.ref a0)] [.ref a0] H r := q_aload_n (mo_149 0 rfl) rfl rfl
theorem r149_1 : Runs xs sl d 149 1 [l0] [s0] H r ↔ Runs xs sl d 149 2 [l0] [.int 3, s0] H r := q_iconst (mo_149 1 rfl) rfl rfl
theorem r149_2 : Runs xs sl d 149 2 [l0] [.int u1, .ref b0] H r ↔ ∃ H1, hOw H b0 8 0 (.int u1) = some H1 ∧ Runs xs sl d 149 5 [l0] [] H1 r := q_putf (mo_149 2 rfl) mow_149 rfl rfl (by decide +kernel) rfl
theorem r149_5 : Runs xs sl d 149 5 [some (.ref a0)] [] H r ↔ Runs xs sl d 149 6 [some (.ref a0)] [.ref a0] H r := q_aload_n (mo_149 5 rfl) rfl rfl
theorem r149_6 : Runs xs sl d 149 6 [l0] [s0] H r ↔ Runs xs sl d 149 7 [l0] [.int 3, s0] H r := q_iconst (mo_149 6 rfl) rfl rfl
theorem r149_7 : Runs xs sl d 149 7 [l0] [.int u1, .ref b0] H r ↔ ∃ H1, hOw H b0 8 1 (.int u1) = some H1 ∧ Runs xs sl d 149 10 [l0] [] H1 r := q_putf (mo_149 7 rfl) mow_149 rfl rfl (by decide +kernel) rfl
theorem r149_10 : Runs xs sl d 149 10 [some (.ref a0)] [] H r ↔ Runs xs sl d 149 11 [some (.ref a0)] [.ref a0] H r := q_aload_n (mo_149 10 rfl) rfl rfl
theorem r149_11 : Runs xs sl d 149 11 [l0] [s0] H r ↔ Runs xs sl d 149 12 [l0] [.int 0, s0] H r := q_iconst (mo_149 11 rfl) rfl rfl
theorem r149_12 : Runs xs sl d 149 12 [l0] [.int u1, .ref b0] H r ↔ ∃ H1, hOw H b0 8 2 (.int u1) = some H1 ∧ Runs xs sl d 149 15 [l0] [] H1 r := q_putf (mo_149 12 rfl) mow_149 rfl rfl (by decide +kernel) rfl
theorem r149_15 : Runs xs sl d 149 15 [some (.ref a0)] [] H r ↔ Runs xs sl d 149 16 [some (.ref a0)] [.ref a0] H r := q_aload_n (mo_149 15 rfl) rfl rfl
theorem r149_16 : Runs xs sl d 149 16 [l0] [s0] H r ↔ Runs xs sl d 149 17 [l0] [.int 0, s0] H r := q_iconst (mo_149 16 rfl) rfl rfl
theorem r149_17 : Runs xs sl d 149 17 [l0] [.int u1, .ref b0] H r ↔ ∃ H1, hOw H b0 8 3 (.int u1) = some H1 ∧ Runs xs sl d 149 20 [l0] [] H1 r := q_putf (mo_149 17 rfl) mow_149 rfl rfl (by decide +kernel) rfl
theorem r149_20 : Runs xs sl d 149 20 [some (.ref a0)] [] H r ↔ Runs xs sl d 149 21 [some (.ref a0)] [.ref a0] H r := q_aload_n (mo_149 20 rfl) rfl rfl
theorem r149_21 : Runs xs sl d 149 21 [l0] [s0] H r ↔ Runs xs sl d 149 22 [l0] [.int 0, s0] H r := q_iconst (mo_149 21 rfl) rfl rfl
theorem r149_22 : Runs xs sl d 149 22 [l0] [.int u1, .ref b0] H r ↔ ∃ H1, hOw H b0 8 4 (.int u1) = some H1 ∧ Runs xs sl d 149 25 [l0] [] H1 r := q_putf (mo_149 22 rfl) mow_149 rfl rfl (by decide +kernel) rfl
theorem r149_25 : Runs xs sl d 149 25 [some (.ref a0)] [] H r ↔ Runs xs sl d 149 26 [some (.ref a0)] [.ref a0] H r := q_aload_n (mo_149 25 rfl) rfl rfl
theorem r149_26 : Runs xs sl d 149 26 [l0] [.ref b0] H r ↔ ∃ v, hO H b0 8 7 = some v ∧ Runs xs sl d 149 29 [l0] [v] H r := q_getf (mo_149 26 rfl) mow_149 rfl rfl
theorem r149_29 : Runs xs sl d 149 29 [l0] [s0] H r ↔ Runs xs sl d 149 30 [l0] [.int 0, s0] H r := q_iconst (mo_149 29 rfl) rfl rfl
theorem r149_30 : Runs xs sl (d + 1) 149 30 [l0] [.int u1, .ref b0] H r ↔ ∃ v H1, Runs xs sl d 291 0 [some (.ref b0), some (.int u1), none, none] [] H (v, H1) ∧ Runs xs sl (d + 1) 149 33 [l0] (v.toList ++ []) H1 r := q_callS (M' := 291) (as := [.ref b0, .int u1]) (rest := []) (mo_149 30 rfl) mow_149 rfl mmx_291 rfl (Nat.le_of_ble_eq_true rfl) (Nat.le_of_ble_eq_true rfl) rfl rfl
theorem r149_33 : Runs xs sl d 149 33 [some (.ref a0)] [] H r ↔ Runs xs sl d 149 34 [some (.ref a0)] [.ref a0] H r := q_aload_n (mo_149 33 rfl) rfl rfl
theorem r149_34 : Runs xs sl d 149 34 [l0] [.ref b0] H r ↔ ∃ v, hO H b0 8 8 = some v ∧ Runs xs sl d 149 37 [l0] [v] H r := q_getf (mo_149 34 rfl) mow_149 rfl rfl
theorem r149_37 : Runs xs sl d 149 37 [l0] [s0] H r ↔ Runs xs sl d 149 38 [l0] [.int 0, s0] H r := q_iconst (mo_149 37 rfl) rfl rfl
theorem r149_38 : Runs xs sl (d + 1) 149 38 [l0] [.int u1, .ref b0] H r ↔ ∃ v H1, Runs xs sl d 291 0 [some (.ref b0), some (.int u1), none, none] [] H (v, H1) ∧ Runs xs sl (d + 1) 149 41 [l0] (v.toList ++ []) H1 r := q_callS (M' := 291) (as := [.ref b0, .int u1]) (rest := []) (mo_149 38 rfl) mow_149 rfl mmx_291 rfl (Nat.le_of_ble_eq_true rfl) (Nat.le_of_ble_eq_true rfl) rfl rfl
theorem r149_41 : Runs xs sl d 149 41 [l0] [] H r ↔ r = (none, H) := q_ret (mo_149 41 rfl) mrt_149
theorem r150_0 : Runs xs sl d 150 0 [some (.ref a0), l1] [] H r ↔ Runs xs sl d 150 1 [some (.ref a0), l1] [.ref a0] H r := q_aload_n (mo_150 0 rfl) rfl rfl
theorem r150_1 : Runs xs sl d 150 1 [l0, some (.ref a1)] [s0] H r ↔ Runs xs sl d 150 2 [l0, some (.ref a1)] [.ref a1, s0] H r := q_aload_n (mo_150 1 rfl) rfl rfl
theorem r150_1n : Runs xs sl d 150 1 [l0, some .null] [s0] H r ↔ Runs xs sl d 150 2 [l0, some .null] [.null, s0] H r := q_aload_nN (mo_150 1 rfl) rfl rfl
theorem r150_2 : Runs xs sl d 150 2 [l0, l1] [.ref b1, s0] H r ↔ ∃ v, hO H b1 8 0 = some v ∧ Runs xs sl d 150 5 [l0, l1] [v, s0] H r := q_getf (mo_150 2 rfl) mow_150 rfl rfl
theorem r150_5 : Runs xs sl d 150 5 [l0, l1] [.int u1, .ref b0] H r ↔ ∃ H1, hOw H b0 8 0 (.int u1) = some H1 ∧ Runs xs sl d 150 8 [l0, l1] [] H1 r := q_putf (mo_150 5 rfl) mow_150 rfl rfl (by decide +kernel) rfl
theorem r150_8 : Runs xs sl d 150 8 [some (.ref a0), l1] [] H r ↔ Runs xs sl d 150 9 [some (.ref a0), l1] [.ref a0] H r := q_aload_n (mo_150 8 rfl) rfl rfl
theorem r150_9 : Runs xs sl d 150 9 [l0, some (.ref a1)] [s0] H r ↔ Runs xs sl d 150 10 [l0, some (.ref a1)] [.ref a1, s0] H r := q_aload_n (mo_150 9 rfl) rfl rfl
theorem r150_9n : Runs xs sl d 150 9 [l0, some .null] [s0] H r ↔ Runs xs sl d 150 10 [l0, some .null] [.null, s0] H r := q_aload_nN (mo_150 9 rfl) rfl rfl
theorem r150_10 : Runs xs sl d 150 10 [l0, l1] [.ref b1, s0] H r ↔ ∃ v, hO H b1 8 1 = some v ∧ Runs xs sl d 150 13 [l0, l1] [v, s0] H r := q_getf (mo_150 10 rfl) mow_150 rfl rfl
theorem r150_13 : Runs xs sl d 150 13 [l0, l1] [.int u1, .ref b0] H r ↔ ∃ H1, hOw H b0 8 1 (.int u1) = some H1 ∧ Runs xs sl d 150 16 [l0, l1] [] H1 r := q_putf (mo_150 13 rfl) mow_150 rfl rfl (by decide +kernel) rfl
theorem r150_16 : Runs xs sl d 150 16 [some (.ref a0), l1] [] H r ↔ Runs xs sl d 150 17 [some (.ref a0), l1] [.ref a0] H r := q_aload_n (mo_150 16 rfl) rfl rfl
theorem r150_17 : Runs xs sl d 150 17 [l0, some (.ref a1)] [s0] H r ↔ Runs xs sl d 150 18 [l0, some (.ref a1)] [.ref a1, s0] H r := q_aload_n (mo_150 17 rfl) rfl rfl
theorem r150_17n : Runs xs sl d 150 17 [l0, some .null] [s0] H r ↔ Runs xs sl d 150 18 [l0, some .null] [.null, s0] H r := q_aload_nN (mo_150 17 rfl) rfl rfl
theorem r150_18 : Runs xs sl d 150 18 [l0, l1] [.ref b1, s0] H r ↔ ∃ v, hO H b1 8 2 = some v ∧ Runs xs sl d 150 21 [l0, l1] [v, s0] H r := q_getf (mo_150 18 rfl) mow_150 rfl rfl
theorem r150_21 : Runs xs sl d 150 21 [l0, l1] [.int u1, .ref b0] H r ↔ ∃ H1, hOw H b0 8 2 (.int u1) = some H1 ∧ Runs xs sl d 150 24 [l0, l1] [] H1 r := q_putf (mo_150 21 rfl) mow_150 rfl rfl (by decide +kernel) rfl
theorem r150_24 : Runs xs sl d 150 24 [some (.ref a0), l1] [] H r ↔ Runs xs sl d 150 25 [some (.ref a0), l1] [.ref a0] H r := q_aload_n (mo_150 24 rfl) rfl rfl
theorem r150_25 : Runs xs sl d 150 25 [l0, some (.ref a1)] [s0] H r ↔ Runs xs sl d 150 26 [l0, some (.ref a1)] [.ref a1, s0] H r := q_aload_n (mo_150 25 rfl) rfl rfl
theorem r150_25n : Runs xs sl d 150 25 [l0, some .null] [s0] H r ↔ Runs xs sl d 150 26 [l0, some .null] [.null, s0] H r := q_aload_nN (mo_150 25 rfl) rfl rfl
theorem r150_26 : Runs xs sl d 150 26 [l0, l1] [.ref b1, s0] H r ↔ ∃ v, hO H b1 8 3 = some v ∧ Runs xs sl d 150 29 [l0, l1] [v, s0] H r := q_getf (mo_150 26 rfl) mow_150 rfl rfl
theorem r150_29 : Runs xs sl d 150 29 [l0, l1] [.int u1, .ref b0] H r ↔ ∃ H1, hOw H b0 8 3 (.int u1) = some H1 ∧ Runs xs sl d 150 32 [l0, l1] [] H1 r := q_putf (mo_150 29 rfl) mow_150 rfl rfl (by decide +kernel) rfl
theorem r150_32 : Runs xs sl d 150 32 [some (.ref a0), l1] [] H r ↔ Runs xs sl d 150 33 [some (.ref a0), l1] [.ref a0] H r := q_aload_n (mo_150 32 rfl) rfl rfl
theorem r150_33 : Runs xs sl d 150 33 [l0, some (.ref a1)] [s0] H r ↔ Runs xs sl d 150 34 [l0, some (.ref a1)] [.ref a1, s0] H r := q_aload_n (mo_150 33 rfl) rfl rfl
theorem r150_33n : Runs xs sl d 150 33 [l0, some .null] [s0] H r ↔ Runs xs sl d 150 34 [l0, some .null] [.null, s0] H r := q_aload_nN (mo_150 33 rfl) rfl rfl
theorem r150_34 : Runs xs sl d 150 34 [l0, l1] [.ref b1, s0] H r ↔ ∃ v, hO H b1 8 4 = some v ∧ Runs xs sl d 150 37 [l0, l1] [v, s0] H r := q_getf (mo_150 34 rfl) mow_150 rfl rfl
theorem r150_37 : Runs xs sl d 150 37 [l0, l1] [.int u1, .ref b0] H r ↔ ∃ H1, hOw H b0 8 4 (.int u1) = some H1 ∧ Runs xs sl d 150 40 [l0, l1] [] H1 r := q_putf (mo_150 37 rfl) mow_150 rfl rfl (by decide +kernel) rfl
theorem r150_40 : Runs xs sl d 150 40 [l0, some (.ref a1)] [] H r ↔ Runs xs sl d 150 41 [l0, some (.ref a1)] [.ref a1] H r := q_aload_n (mo_150 40 rfl) rfl rfl
theorem r150_40n : Runs xs sl d 150 40 [l0, some .null] [] H r ↔ Runs xs sl d 150 41 [l0, some .null] [.null] H r := q_aload_nN (mo_150 40 rfl) rfl rfl
theorem r150_41 : Runs xs sl d 150 41 [l0, l1] [.ref b0] H r ↔ ∃ v, hO H b0 8 5 = some v ∧ Runs xs sl d 150 44 [l0, l1] [v] H r := q_getf (mo_150 41 rfl) mow_150 rfl rfl
theorem r150_44 : Runs xs sl d 150 44 [l0, l1] [s0] H r ↔ Runs xs sl d 150 45 [l0, l1] [.int 0, s0] H r := q_iconst (mo_150 44 rfl) rfl rfl
theorem r150_45 : Runs xs sl d 150 45 [some (.ref a0), l1] [s1, s0] H r ↔ Runs xs sl d 150 46 [some (.ref a0), l1] [.ref a0, s1, s0] H r := q_aload_n (mo_150 45 rfl) rfl rfl
theorem r150_46 : Runs xs sl d 150 46 [l0, l1] [.ref b2, s1, s0] H r ↔ ∃ v, hO H b2 8 5 = some v ∧ Runs xs sl d 150 49 [l0, l1] [v, s1, s0] H r := q_getf (mo_150 46 rfl) mow_150 rfl rfl
theorem r150_49 : Runs xs sl d 150 49 [l0, l1] [s2, s1, s0] H r ↔ Runs xs sl d 150 50 [l0, l1] [.int 0, s2, s1, s0] H r := q_iconst (mo_150 49 rfl) rfl rfl
theorem r150_50 : Runs xs sl d 150 50 [l0, l1] [s3, s2, s1, s0] H r ↔ Runs xs sl d 150 52 [l0, l1] [.int 8, s3, s2, s1, s0] H r := q_bipush (mo_150 50 rfl) rfl rfl
theorem r150_52 : Runs xs sl (d + 1) 150 52 [l0, l1] [.int u4, .int u3, .ref b2, .int u1, .ref b0] H r ↔ ∃ H1, hCp H b0 b2 u1 u3 u4 = some H1 ∧ Runs xs sl (d + 1) 150 55 [l0, l1] [] H1 r := q_copy (mo_150 52 rfl) mow_150 rfl (Nat.le_of_ble_eq_true rfl) rfl
theorem r150_55 : Runs xs sl d 150 55 [l0, some (.ref a1)] [] H r ↔ Runs xs sl d 150 56 [l0, some (.ref a1)] [.ref a1] H r := q_aload_n (mo_150 55 rfl) rfl rfl
theorem r150_55n : Runs xs sl d 150 55 [l0, some .null] [] H r ↔ Runs xs sl d 150 56 [l0, some .null] [.null] H r := q_aload_nN (mo_150 55 rfl) rfl rfl
theorem r150_56 : Runs xs sl d 150 56 [l0, l1] [.ref b0] H r ↔ ∃ v, hO H b0 8 6 = some v ∧ Runs xs sl d 150 59 [l0, l1] [v] H r := q_getf (mo_150 56 rfl) mow_150 rfl rfl
theorem r150_59 : Runs xs sl d 150 59 [l0, l1] [s0] H r ↔ Runs xs sl d 150 60 [l0, l1] [.int 0, s0] H r := q_iconst (mo_150 59 rfl) rfl rfl
theorem r150_60 : Runs xs sl d 150 60 [some (.ref a0), l1] [s1, s0] H r ↔ Runs xs sl d 150 61 [some (.ref a0), l1] [.ref a0, s1, s0] H r := q_aload_n (mo_150 60 rfl) rfl rfl
theorem r150_61 : Runs xs sl d 150 61 [l0, l1] [.ref b2, s1, s0] H r ↔ ∃ v, hO H b2 8 6 = some v ∧ Runs xs sl d 150 64 [l0, l1] [v, s1, s0] H r := q_getf (mo_150 61 rfl) mow_150 rfl rfl
theorem r150_64 : Runs xs sl d 150 64 [l0, l1] [s2, s1, s0] H r ↔ Runs xs sl d 150 65 [l0, l1] [.int 0, s2, s1, s0] H r := q_iconst (mo_150 64 rfl) rfl rfl
theorem r150_65 : Runs xs sl d 150 65 [l0, l1] [s3, s2, s1, s0] H r ↔ Runs xs sl d 150 67 [l0, l1] [.int 8, s3, s2, s1, s0] H r := q_bipush (mo_150 65 rfl) rfl rfl
theorem r150_67 : Runs xs sl (d + 1) 150 67 [l0, l1] [.int u4, .int u3, .ref b2, .int u1, .ref b0] H r ↔ ∃ H1, hCp H b0 b2 u1 u3 u4 = some H1 ∧ Runs xs sl (d + 1) 150 70 [l0, l1] [] H1 r := q_copy (mo_150 67 rfl) mow_150 rfl (Nat.le_of_ble_eq_true rfl) rfl
theorem r150_70 : Runs xs sl d 150 70 [l0, some (.ref a1)] [] H r ↔ Runs xs sl d 150 71 [l0, some (.ref a1)] [.ref a1] H r := q_aload_n (mo_150 70 rfl) rfl rfl
theorem r150_70n : Runs xs sl d 150 70 [l0, some .null] [] H r ↔ Runs xs sl d 150 71 [l0, some .null] [.null] H r := q_aload_nN (mo_150 70 rfl) rfl rfl
theorem r150_71 : Runs xs sl d 150 71 [l0, l1] [.ref b0] H r ↔ ∃ v, hO H b0 8 7 = some v ∧ Runs xs sl d 150 74 [l0, l1] [v] H r := q_getf (mo_150 71 rfl) mow_150 rfl rfl
theorem r150_74 : Runs xs sl d 150 74 [l0, l1] [s0] H r ↔ Runs xs sl d 150 75 [l0, l1] [.int 0, s0] H r := q_iconst (mo_150 74 rfl) rfl rfl
theorem r150_75 : Runs xs sl d 150 75 [some (.ref a0), l1] [s1, s0] H r ↔ Runs xs sl d 150 76 [some (.ref a0), l1] [.ref a0, s1, s0] H r := q_aload_n (mo_150 75 rfl) rfl rfl
theorem r150_76 : Runs xs sl d 150 76 [l0, l1] [.ref b2, s1, s0] H r ↔ ∃ v, hO H b2 8 7 = some v ∧ Runs xs sl d 150 79 [l0, l1] [v, s1, s0] H r := q_getf (mo_150 76 rfl) mow_150 rfl rfl
theorem r150_79 : Runs xs sl d 150 79 [l0, l1] [s2, s1, s0] H r ↔ Runs xs sl d 150 80 [l0, l1] [.int 0, s2, s1, s0] H r := q_iconst (mo_150 79 rfl) rfl rfl
theorem r150_80 : Runs xs sl d 150 80 [l0, l1] [s3, s2, s1, s0] H r ↔ Runs xs sl d 150 82 [l0, l1] [.int 8, s3, s2, s1, s0] H r := q_bipush (mo_150 80 rfl) rfl rfl
theorem r150_82 : Runs xs sl (d + 1) 150 82 [l0, l1] [.int u4, .int u3, .ref b2, .int u1, .ref b0] H r ↔ ∃ H1, hCp H b0 b2 u1 u3 u4 = some H1 ∧ Runs xs sl (d + 1) 150 85 [l0, l1] [] H1 r := q_copy (mo_150 82 rfl) mow_150 rfl (Nat.le_of_ble_eq_true rfl) rfl
theorem r150_85 : Runs xs sl d 150 85 [l0, some (.ref a1)] [] H r ↔ Runs xs sl d 150 86 [l0, some (.ref a1)] [.ref a1] H r := q_aload_n (mo_150 85 rfl) rfl rfl
theorem r150_85n : Runs xs sl d 150 85 [l0, some .null] [] H r ↔ Runs xs sl d 150 86 [l0, some .null] [.null] H r := q_aload_nN (mo_150 85 rfl) rfl rfl
theorem r150_86 : Runs xs sl d 150 86 [l0, l1] [.ref b0] H r ↔ ∃ v, hO H b0 8 8 = some v ∧ Runs xs sl d 150 89 [l0, l1] [v] H r := q_getf (mo_150 86 rfl) mow_150 rfl rfl
theorem r150_89 : Runs xs sl d 150 89 [l0, l1] [s0] H r ↔ Runs xs sl d 150 90 [l0, l1] [.int 0, s0] H r := q_iconst (mo_150 89 rfl) rfl rfl
theorem r150_90 : Runs xs sl d 150 90 [some (.ref a0), l1] [s1, s0] H r ↔ Runs xs sl d 150 91 [some (.ref a0), l1] [.ref a0, s1, s0] H r := q_aload_n (mo_150 90 rfl) rfl rfl
theorem r150_91 : Runs xs sl d 150 91 [l0, l1] [.ref b2, s1, s0] H r ↔ ∃ v, hO H b2 8 8 = some v ∧ Runs xs sl d 150 94 [l0, l1] [v, s1, s0] H r := q_getf (mo_150 91 rfl) mow_150 rfl rfl
theorem r150_94 : Runs xs sl d 150 94 [l0, l1] [s2, s1, s0] H r ↔ Runs xs sl d 150 95 [l0, l1] [.int 0, s2, s1, s0] H r := q_iconst (mo_150 94 rfl) rfl rfl
theorem r150_95 : Runs xs sl d 150 95 [l0, l1] [s3, s2, s1, s0] H r ↔ Runs xs sl d 150 97 [l0, l1] [.int 48, s3, s2, s1, s0] H r := q_bipush (mo_150 95 rfl) rfl rfl
theorem r150_97 : Runs xs sl (d + 1) 150 97 [l0, l1] [.int u4, .int u3, .ref b2, .int u1, .ref b0] H r ↔ ∃ H1, hCp H b0 b2 u1 u3 u4 = some H1 ∧ Runs xs sl (d + 1) 150 100 [l0, l1] [] H1 r := q_copy (mo_150 97 rfl) mow_150 rfl (Nat.le_of_ble_eq_true rfl) rfl
theorem r150_100 : Runs xs sl d 150 100 [l0, some (.ref a1)] [] H r ↔ Runs xs sl d 150 101 [l0, some (.ref a1)] [.ref a1] H r := q_aload_n (mo_150 100 rfl) rfl rfl
theorem r150_100n : Runs xs sl d 150 100 [l0, some .null] [] H r ↔ Runs xs sl d 150 101 [l0, some .null] [.null] H r := q_aload_nN (mo_150 100 rfl) rfl rfl
theorem r150_101 : Runs xs sl d 150 101 [l0, l1] [.ref b0] H r ↔ ∃ v, hO H b0 8 9 = some v ∧ Runs xs sl d 150 104 [l0, l1] [v] H r := q_getf (mo_150 101 rfl) mow_150 rfl rfl
theorem r150_104 : Runs xs sl d 150 104 [l0, l1] [s0] H r ↔ Runs xs sl d 150 105 [l0, l1] [.int 0, s0] H r := q_iconst (mo_150 104 rfl) rfl rfl
theorem r150_105 : Runs xs sl d 150 105 [some (.ref a0), l1] [s1, s0] H r ↔ Runs xs sl d 150 106 [some (.ref a0), l1] [.ref a0, s1, s0] H r := q_aload_n (mo_150 105 rfl) rfl rfl
theorem r150_106 : Runs xs sl d 150 106 [l0, l1] [.ref b2, s1, s0] H r ↔ ∃ v, hO H b2 8 9 = some v ∧ Runs xs sl d 150 109 [l0, l1] [v, s1, s0] H r := q_getf (mo_150 106 rfl) mow_150 rfl rfl
theorem r150_109 : Runs xs sl d 150 109 [l0, l1] [s2, s1, s0] H r ↔ Runs xs sl d 150 110 [l0, l1] [.int 0, s2, s1, s0] H r := q_iconst (mo_150 109 rfl) rfl rfl
theorem r150_110 : Runs xs sl d 150 110 [l0, l1] [s3, s2, s1, s0] H r ↔ Runs xs sl d 150 112 [l0, l1] [.int 36, s3, s2, s1, s0] H r := q_bipush (mo_150 110 rfl) rfl rfl
theorem r150_112 : Runs xs sl (d + 1) 150 112 [l0, l1] [.int u4, .int u3, .ref b2, .int u1, .ref b0] H r ↔ ∃ H1, hCp H b0 b2 u1 u3 u4 = some H1 ∧ Runs xs sl (d + 1) 150 115 [l0, l1] [] H1 r := q_copy (mo_150 112 rfl) mow_150 rfl (Nat.le_of_ble_eq_true rfl) rfl
theorem r150_115 : Runs xs sl d 150 115 [l0, some (.ref a1)] [] H r ↔ Runs xs sl d 150 116 [l0, some (.ref a1)] [.ref a1] H r := q_aload_n (mo_150 115 rfl) rfl rfl
theorem r150_115n : Runs xs sl d 150 115 [l0, some .null] [] H r ↔ Runs xs sl d 150 116 [l0, some .null] [.null] H r := q_aload_nN (mo_150 115 rfl) rfl rfl
theorem r150_116 : Runs xs sl d 150 116 [l0, l1] [.ref b0] H r ↔ ∃ v, hO H b0 8 10 = some v ∧ Runs xs sl d 150 119 [l0, l1] [v] H r := q_getf (mo_150 116 rfl) mow_150 rfl rfl
theorem r150_119 : Runs xs sl d 150 119 [l0, l1] [s0] H r ↔ Runs xs sl d 150 120 [l0, l1] [.int 0, s0] H r := q_iconst (mo_150 119 rfl) rfl rfl
theorem r150_120 : Runs xs sl d 150 120 [some (.ref a0), l1] [s1, s0] H r ↔ Runs xs sl d 150 121 [some (.ref a0), l1] [.ref a0, s1, s0] H r := q_aload_n (mo_150 120 rfl) rfl rfl
theorem r150_121 : Runs xs sl d 150 121 [l0, l1] [.ref b2, s1, s0] H r ↔ ∃ v, hO H b2 8 10 = some v ∧ Runs xs sl d 150 124 [l0, l1] [v, s1, s0] H r := q_getf (mo_150 121 rfl) mow_150 rfl rfl
theorem r150_124 : Runs xs sl d 150 124 [l0, l1] [s2, s1, s0] H r ↔ Runs xs sl d 150 125 [l0, l1] [.int 0, s2, s1, s0] H r := q_iconst (mo_150 124 rfl) rfl rfl
theorem r150_125 : Runs xs sl d 150 125 [l0, l1] [s3, s2, s1, s0] H r ↔ Runs xs sl d 150 127 [l0, l1] [.int 8, s3, s2, s1, s0] H r := q_bipush (mo_150 125 rfl) rfl rfl
theorem r150_127 : Runs xs sl (d + 1) 150 127 [l0, l1] [.int u4, .int u3, .ref b2, .int u1, .ref b0] H r ↔ ∃ H1, hCp H b0 b2 u1 u3 u4 = some H1 ∧ Runs xs sl (d + 1) 150 130 [l0, l1] [] H1 r := q_copy (mo_150 127 rfl) mow_150 rfl (Nat.le_of_ble_eq_true rfl) rfl
theorem r150_130 : Runs xs sl d 150 130 [l0, some (.ref a1)] [] H r ↔ Runs xs sl d 150 131 [l0, some (.ref a1)] [.ref a1] H r := q_aload_n (mo_150 130 rfl) rfl rfl
theorem r150_130n : Runs xs sl d 150 130 [l0, some .null] [] H r ↔ Runs xs sl d 150 131 [l0, some .null] [.null] H r := q_aload_nN (mo_150 130 rfl) rfl rfl
theorem r150_131 : Runs xs sl d 150 131 [l0, l1] [.ref b0] H r ↔ ∃ v, hO H b0 8 11 = some v ∧ Runs xs sl d 150 134 [l0, l1] [v] H r := q_getf (mo_150 131 rfl) mow_150 rfl rfl
theorem r150_134 : Runs xs sl d 150 134 [l0, l1] [s0] H r ↔ Runs xs sl d 150 135 [l0, l1] [.int 0, s0] H r := q_iconst (mo_150 134 rfl) rfl rfl
theorem r150_135 : Runs xs sl d 150 135 [some (.ref a0), l1] [s1, s0] H r ↔ Runs xs sl d 150 136 [some (.ref a0), l1] [.ref a0, s1, s0] H r := q_aload_n (mo_150 135 rfl) rfl rfl
theorem r150_136 : Runs xs sl d 150 136 [l0, l1] [.ref b2, s1, s0] H r ↔ ∃ v, hO H b2 8 11 = some v ∧ Runs xs sl d 150 139 [l0, l1] [v, s1, s0] H r := q_getf (mo_150 136 rfl) mow_150 rfl rfl
theorem r150_139 : Runs xs sl d 150 139 [l0, l1] [s2, s1, s0] H r ↔ Runs xs sl d 150 140 [l0, l1] [.int 0, s2, s1, s0] H r := q_iconst (mo_150 139 rfl) rfl rfl
theorem r150_140 : Runs xs sl d 150 140 [l0, l1] [s3, s2, s1, s0] H r ↔ Runs xs sl d 150 142 [l0, l1] [.int 8, s3, s2, s1, s0] H r := q_bipush (mo_150 140 rfl) rfl rfl
theorem r150_142 : Runs xs sl (d + 1) 150 142 [l0, l1] [.int u4, .int u3, .ref b2, .int u1, .ref b0] H r ↔ ∃ H1, hCp H b0 b2 u1 u3 u4 = some H1 ∧ Runs xs sl (d + 1) 150 145 [l0, l1] [] H1 r := q_copy (mo_150 142 rfl) mow_150 rfl (Nat.le_of_ble_eq_true rfl) rfl
theorem r150_145 : Runs xs sl d 150 145 [l0, l1] [] H r ↔ r = (none, H) := q_ret (mo_150 145 rfl) mrt_150
theorem r151_0 : Runs xs sl d 151 0 [l0, some (.int i1)] [] H r ↔ Runs xs sl d 151 1 [l0, some (.int i1)] [.int i1] H r := q_iload_n (mo_151 0 rfl) rfl rfl
theorem r151_1_c0 : Runs xs sl d 151 1 [l0, l1] [.int 0] H r ↔ Runs xs sl d 151 36 [l0, l1] [] H r := q_tsw (off := 35) (mo_151 1 rfl) rfl rfl
theorem r151_1_c1 : Runs xs sl d 151 1 [l0, l1] [.int 1] H r ↔ Runs xs sl d 151 41 [l0, l1] [] H r := q_tsw (off := 40) (mo_151 1 rfl) rfl rfl
theorem r151_1_c2 : Runs xs sl d 151 1 [l0, l1] [.int 2] H r ↔ Runs xs sl d 151 46 [l0, l1] [] H r := q_tsw (off := 45) (mo_151 1 rfl) rfl rfl
theorem r151_1_c3 : Runs xs sl d 151 1 [l0, l1] [.int 3] H r ↔ Runs xs sl d 151 51 [l0, l1] [] H r := q_tsw (off := 50) (mo_151 1 rfl) rfl rfl
theorem r151_1_c4 : Runs xs sl d 151 1 [l0, l1] [.int 4] H r ↔ Runs xs sl d 151 56 [l0, l1] [] H r := q_tsw (off := 55) (mo_151 1 rfl) rfl rfl
theorem r151_1_d (h : u0.toInt < 0 ∨ 4 < u0.toInt) : Runs xs sl d 151 1 [l0, l1] [.int u0] H r ↔ Runs xs sl d 151 61 [l0, l1] [] H r := q_tswD (mo_151 1 rfl) rfl h
theorem r151_36 : Runs xs sl d 151 36 [some (.ref a0), l1] [] H r ↔ Runs xs sl d 151 37 [some (.ref a0), l1] [.ref a0] H r := q_aload_n (mo_151 36 rfl) rfl rfl
theorem r151_37 : Runs xs sl d 151 37 [l0, l1] [.ref b0] H r ↔ ∃ v, hO H b0 8 0 = some v ∧ Runs xs sl d 151 40 [l0, l1] [v] H r := q_getf (mo_151 37 rfl) mow_151 rfl rfl
theorem r151_40 : Runs xs sl d 151 40 [l0, l1] [.int u0] H r ↔ r = (some (.int u0), H) := q_iret (mo_151 40 rfl) mrt_151
theorem r151_41 : Runs xs sl d 151 41 [some (.ref a0), l1] [] H r ↔ Runs xs sl d 151 42 [some (.ref a0), l1] [.ref a0] H r := q_aload_n (mo_151 41 rfl) rfl rfl
theorem r151_42 : Runs xs sl d 151 42 [l0, l1] [.ref b0] H r ↔ ∃ v, hO H b0 8 1 = some v ∧ Runs xs sl d 151 45 [l0, l1] [v] H r := q_getf (mo_151 42 rfl) mow_151 rfl rfl
theorem r151_45 : Runs xs sl d 151 45 [l0, l1] [.int u0] H r ↔ r = (some (.int u0), H) := q_iret (mo_151 45 rfl) mrt_151
theorem r151_46 : Runs xs sl d 151 46 [some (.ref a0), l1] [] H r ↔ Runs xs sl d 151 47 [some (.ref a0), l1] [.ref a0] H r := q_aload_n (mo_151 46 rfl) rfl rfl
theorem r151_47 : Runs xs sl d 151 47 [l0, l1] [.ref b0] H r ↔ ∃ v, hO H b0 8 2 = some v ∧ Runs xs sl d 151 50 [l0, l1] [v] H r := q_getf (mo_151 47 rfl) mow_151 rfl rfl
theorem r151_50 : Runs xs sl d 151 50 [l0, l1] [.int u0] H r ↔ r = (some (.int u0), H) := q_iret (mo_151 50 rfl) mrt_151
theorem r151_51 : Runs xs sl d 151 51 [some (.ref a0), l1] [] H r ↔ Runs xs sl d 151 52 [some (.ref a0), l1] [.ref a0] H r := q_aload_n (mo_151 51 rfl) rfl rfl
theorem r151_52 : Runs xs sl d 151 52 [l0, l1] [.ref b0] H r ↔ ∃ v, hO H b0 8 3 = some v ∧ Runs xs sl d 151 55 [l0, l1] [v] H r := q_getf (mo_151 52 rfl) mow_151 rfl rfl
theorem r151_55 : Runs xs sl d 151 55 [l0, l1] [.int u0] H r ↔ r = (some (.int u0), H) := q_iret (mo_151 55 rfl) mrt_151
theorem r151_56 : Runs xs sl d 151 56 [some (.ref a0), l1] [] H r ↔ Runs xs sl d 151 57 [some (.ref a0), l1] [.ref a0] H r := q_aload_n (mo_151 56 rfl) rfl rfl
theorem r151_57 : Runs xs sl d 151 57 [l0, l1] [.ref b0] H r ↔ ∃ v, hO H b0 8 4 = some v ∧ Runs xs sl d 151 60 [l0, l1] [v] H r := q_getf (mo_151 57 rfl) mow_151 rfl rfl
theorem r151_60 : Runs xs sl d 151 60 [l0, l1] [.int u0] H r ↔ r = (some (.int u0), H) := q_iret (mo_151 60 rfl) mrt_151
theorem r151_61 : Runs xs sl d 151 61 [l0, l1] [] H r ↔ Runs xs sl d 151 62 [l0, l1] [.int (-1)] H r := q_iconst (mo_151 61 rfl) rfl rfl
theorem r151_62 : Runs xs sl d 151 62 [l0, l1] [.int u0] H r ↔ r = (some (.int u0), H) := q_iret (mo_151 62 rfl) mrt_151
theorem r152_0 : Runs xs sl d 152 0 [l0, some (.int i1), l2] [] H r ↔ Runs xs sl d 152 1 [l0, some (.int i1), l2] [.int i1] H r := q_iload_n (mo_152 0 rfl) rfl rfl
theorem r152_1 : Runs xs sl d 152 1 [l0, l1, l2] [s0] H r ↔ Runs xs sl d 152 2 [l0, l1, l2] [.int 1, s0] H r := q_iconst (mo_152 1 rfl) rfl rfl
theorem r152_2 : Runs xs sl d 152 2 [l0, l1, l2] [.int u1, .int u0] H r ↔ if ¬ u0 = u1 then Runs xs sl d 152 12 [l0, l1, l2] [] H r else Runs xs sl d 152 5 [l0, l1, l2] [] H r := q_icmp_ne (mo_152 2 rfl) rfl rfl
theorem r152_5 : Runs xs sl d 152 5 [some (.ref a0), l1, l2] [] H r ↔ Runs xs sl d 152 6 [some (.ref a0), l1, l2] [.ref a0] H r := q_aload_n (mo_152 5 rfl) rfl rfl
theorem r152_6 : Runs xs sl d 152 6 [l0, l1, l2] [.ref b0] H r ↔ ∃ v, hO H b0 8 5 = some v ∧ Runs xs sl d 152 9 [l0, l1, l2] [v] H r := q_getf (mo_152 6 rfl) mow_152 rfl rfl
theorem r152_9 : Runs xs sl d 152 9 [l0, l1, some (.int i2)] [s0] H r ↔ Runs xs sl d 152 10 [l0, l1, some (.int i2)] [.int i2, s0] H r := q_iload_n (mo_152 9 rfl) rfl rfl
theorem r152_10 : Runs xs sl d 152 10 [l0, l1, l2] [.int u1, .ref b0] H r ↔ ∃ v, hA H b0 0 u1 = some v ∧ Runs xs sl d 152 11 [l0, l1, l2] [.int v] H r := run_iald (mo_152 10 rfl) rfl
theorem r152_11 : Runs xs sl d 152 11 [l0, l1, l2] [.int u0] H r ↔ r = (some (.int u0), H) := q_iret (mo_152 11 rfl) mrt_152
theorem r152_12 : Runs xs sl d 152 12 [l0, some (.int i1), l2] [] H r ↔ Runs xs sl d 152 13 [l0, some (.int i1), l2] [.int i1] H r := q_iload_n (mo_152 12 rfl) rfl rfl
theorem r152_13 : Runs xs sl d 152 13 [l0, l1, l2] [s0] H r ↔ Runs xs sl d 152 14 [l0, l1, l2] [.int 2, s0] H r := q_iconst (mo_152 13 rfl) rfl rfl
theorem r152_14 : Runs xs sl d 152 14 [l0, l1, l2] [.int u1, .int u0] H r ↔ if ¬ u0 = u1 then Runs xs sl d 152 26 [l0, l1, l2] [] H r else Runs xs sl d 152 17 [l0, l1, l2] [] H r := q_icmp_ne (mo_152 14 rfl) rfl rfl
theorem r152_17 : Runs xs sl d 152 17 [some (.ref a0), l1, l2] [] H r ↔ Runs xs sl d 152 18 [some (.ref a0), l1, l2] [.ref a0] H r := q_aload_n (mo_152 17 rfl) rfl rfl
theorem r152_18 : Runs xs sl d 152 18 [l0, l1, l2] [.ref b0] H r ↔ ∃ v, hO H b0 8 6 = some v ∧ Runs xs sl d 152 21 [l0, l1, l2] [v] H r := q_getf (mo_152 18 rfl) mow_152 rfl rfl
theorem r152_21 : Runs xs sl d 152 21 [l0, l1, some (.int i2)] [s0] H r ↔ Runs xs sl d 152 22 [l0, l1, some (.int i2)] [.int i2, s0] H r := q_iload_n (mo_152 21 rfl) rfl rfl
theorem r152_22 : Runs xs sl d 152 22 [l0, l1, l2] [.int u1, .ref b0] H r ↔ ∃ v, hA H b0 0 u1 = some v ∧ Runs xs sl d 152 23 [l0, l1, l2] [.int v] H r := run_iald (mo_152 22 rfl) rfl
theorem r152_23 : Runs xs sl d 152 23 [l0, l1, l2] [s0] H r ↔ Runs xs sl d 152 32 [l0, l1, l2] [s0] H r := q_goto (mo_152 23 rfl) rfl
theorem r152_26 : Runs xs sl d 152 26 [some (.ref a0), l1, l2] [] H r ↔ Runs xs sl d 152 27 [some (.ref a0), l1, l2] [.ref a0] H r := q_aload_n (mo_152 26 rfl) rfl rfl
theorem r152_27 : Runs xs sl d 152 27 [l0, l1, l2] [.ref b0] H r ↔ ∃ v, hO H b0 8 7 = some v ∧ Runs xs sl d 152 30 [l0, l1, l2] [v] H r := q_getf (mo_152 27 rfl) mow_152 rfl rfl
theorem r152_30 : Runs xs sl d 152 30 [l0, l1, some (.int i2)] [s0] H r ↔ Runs xs sl d 152 31 [l0, l1, some (.int i2)] [.int i2, s0] H r := q_iload_n (mo_152 30 rfl) rfl rfl
theorem r152_31 : Runs xs sl d 152 31 [l0, l1, l2] [.int u1, .ref b0] H r ↔ ∃ v, hA H b0 0 u1 = some v ∧ Runs xs sl d 152 32 [l0, l1, l2] [.int v] H r := run_iald (mo_152 31 rfl) rfl
theorem r152_32 : Runs xs sl d 152 32 [l0, l1, l2] [.int u0] H r ↔ r = (some (.int u0), H) := q_iret (mo_152 32 rfl) mrt_152
theorem r153_0 : Runs xs sl d 153 0 [l0, some (.int i1)] [] H r ↔ Runs xs sl d 153 1 [l0, some (.int i1)] [.int i1] H r := q_iload_n (mo_153 0 rfl) rfl rfl
theorem r153_1 : Runs xs sl d 153 1 [l0, l1] [.int u0] H r ↔ if u0 < 0 then Runs xs sl d 153 16 [l0, l1] [] H r else Runs xs sl d 153 4 [l0, l1] [] H r := q_if_lt (mo_153 1 rfl) rfl rfl
theorem r153_4 : Runs xs sl d 153 4 [l0, some (.int i1)] [] H r ↔ Runs xs sl d 153 5 [l0, some (.int i1)] [.int i1] H r := q_iload_n (mo_153 4 rfl) rfl rfl
theorem r153_5 : Runs xs sl d 153 5 [some (.ref a0), l1] [s0] H r ↔ Runs xs sl d 153 6 [some (.ref a0), l1] [.ref a0, s0] H r := q_aload_n (mo_153 5 rfl) rfl rfl
theorem r153_6 : Runs xs sl d 153 6 [l0, l1] [.ref b1, s0] H r ↔ ∃ v, hO H b1 8 2 = some v ∧ Runs xs sl d 153 9 [l0, l1] [v, s0] H r := q_getf (mo_153 6 rfl) mow_153 rfl rfl
theorem r153_9 : Runs xs sl d 153 9 [l0, l1] [.int u1, .int u0] H r ↔ if u1 ≤ u0 then Runs xs sl d 153 16 [l0, l1] [] H r else Runs xs sl d 153 12 [l0, l1] [] H r := q_icmp_ge (mo_153 9 rfl) rfl rfl
theorem r153_12 : Runs xs sl d 153 12 [l0, l1] [] H r ↔ Runs xs sl d 153 13 [l0, l1] [.int 1] H r := q_iconst (mo_153 12 rfl) rfl rfl
theorem r153_13 : Runs xs sl d 153 13 [l0, l1] [s0] H r ↔ Runs xs sl d 153 17 [l0, l1] [s0] H r := q_goto (mo_153 13 rfl) rfl
theorem r153_16 : Runs xs sl d 153 16 [l0, l1] [] H r ↔ Runs xs sl d 153 17 [l0, l1] [.int 0] H r := q_iconst (mo_153 16 rfl) rfl rfl
theorem r153_17 (h : u0 = 0 ∨ u0 = 1) : Runs xs sl d 153 17 [l0, l1] [.int u0] H r ↔ r = (some (.int u0), H) := q_zret (mo_153 17 rfl) mrt_153 h
theorem r154_0 : Runs xs sl d 154 0 [l0, some (.int i1)] [] H r ↔ Runs xs sl d 154 1 [l0, some (.int i1)] [.int i1] H r := q_iload_n (mo_154 0 rfl) rfl rfl
theorem r154_1 : Runs xs sl d 154 1 [l0, l1] [.int u0] H r ↔ if u0 < 0 then Runs xs sl d 154 16 [l0, l1] [] H r else Runs xs sl d 154 4 [l0, l1] [] H r := q_if_lt (mo_154 1 rfl) rfl rfl
theorem r154_4 : Runs xs sl d 154 4 [l0, some (.int i1)] [] H r ↔ Runs xs sl d 154 5 [l0, some (.int i1)] [.int i1] H r := q_iload_n (mo_154 4 rfl) rfl rfl
theorem r154_5 : Runs xs sl d 154 5 [some (.ref a0), l1] [s0] H r ↔ Runs xs sl d 154 6 [some (.ref a0), l1] [.ref a0, s0] H r := q_aload_n (mo_154 5 rfl) rfl rfl
theorem r154_6 : Runs xs sl d 154 6 [l0, l1] [.ref b1, s0] H r ↔ ∃ v, hO H b1 8 0 = some v ∧ Runs xs sl d 154 9 [l0, l1] [v, s0] H r := q_getf (mo_154 6 rfl) mow_154 rfl rfl
theorem r154_9 : Runs xs sl d 154 9 [l0, l1] [.int u1, .int u0] H r ↔ if u1 ≤ u0 then Runs xs sl d 154 16 [l0, l1] [] H r else Runs xs sl d 154 12 [l0, l1] [] H r := q_icmp_ge (mo_154 9 rfl) rfl rfl
theorem r154_12 : Runs xs sl d 154 12 [l0, l1] [] H r ↔ Runs xs sl d 154 13 [l0, l1] [.int 1] H r := q_iconst (mo_154 12 rfl) rfl rfl
theorem r154_13 : Runs xs sl d 154 13 [l0, l1] [s0] H r ↔ Runs xs sl d 154 17 [l0, l1] [s0] H r := q_goto (mo_154 13 rfl) rfl
theorem r154_16 : Runs xs sl d 154 16 [l0, l1] [] H r ↔ Runs xs sl d 154 17 [l0, l1] [.int 0] H r := q_iconst (mo_154 16 rfl) rfl rfl
theorem r154_17 (h : u0 = 0 ∨ u0 = 1) : Runs xs sl d 154 17 [l0, l1] [.int u0] H r ↔ r = (some (.int u0), H) := q_zret (mo_154 17 rfl) mrt_154 h
theorem r155_0 : Runs xs sl d 155 0 [l0, l1, l2, l3, l4] [] H r ↔ Runs xs sl d 155 1 [l0, l1, l2, l3, l4] [.int 0] H r := q_iconst (mo_155 0 rfl) rfl rfl
theorem r155_1 : Runs xs sl d 155 1 [l0, l1, some (.int i2), l3, l4] [.int u0] H r ↔ Runs xs sl d 155 2 [l0, l1, some (.int i2), some (.int u0), l4] [] H r := q_istore_n (mo_155 1 rfl) (Nat.le_of_ble_eq_true rfl) rfl rfl
theorem r155_2 : Runs xs sl d 155 2 [l0, l1, l2, l3, l4] [] H r ↔ Runs xs sl d 155 3 [l0, l1, l2, l3, l4] [.int 0] H r := q_iconst (mo_155 2 rfl) rfl rfl
theorem r155_3 : Runs xs sl d 155 3 [l0, l1, l2, some (.int i3), l4] [.int u0] H r ↔ Runs xs sl d 155 5 [l0, l1, l2, some (.int i3), some (.int u0)] [] H r := q_istore (mo_155 3 rfl) (Nat.le_of_ble_eq_true rfl) rfl rfl
theorem r155_5 : Runs xs sl d 155 5 [l0, l1, l2, l3, some (.int i4)] [] H r ↔ Runs xs sl d 155 7 [l0, l1, l2, l3, some (.int i4)] [.int i4] H r := q_iload (mo_155 5 rfl) rfl rfl
theorem r155_7 : Runs xs sl d 155 7 [some (.ref a0), l1, l2, l3, l4] [s0] H r ↔ Runs xs sl d 155 8 [some (.ref a0), l1, l2, l3, l4] [.ref a0, s0] H r := q_aload_n (mo_155 7 rfl) rfl rfl
theorem r155_8 : Runs xs sl d 155 8 [l0, l1, l2, l3, l4] [.ref b1, s0] H r ↔ ∃ v, hO H b1 8 0 = some v ∧ Runs xs sl d 155 11 [l0, l1, l2, l3, l4] [v, s0] H r := q_getf (mo_155 8 rfl) mow_155 rfl rfl
theorem r155_11 : Runs xs sl d 155 11 [l0, l1, l2, l3, l4] [.int u1, .int u0] H r ↔ if u1 ≤ u0 then Runs xs sl d 155 51 [l0, l1, l2, l3, l4] [] H r else Runs xs sl d 155 14 [l0, l1, l2, l3, l4] [] H r := q_icmp_ge (mo_155 11 rfl) rfl rfl
theorem r155_14 : Runs xs sl d 155 14 [l0, l1, l2, some (.int i3), l4] [] H r ↔ Runs xs sl d 155 15 [l0, l1, l2, some (.int i3), l4] [.int i3] H r := q_iload_n (mo_155 14 rfl) rfl rfl
theorem r155_15 : Runs xs sl d 155 15 [some (.ref a0), l1, l2, l3, l4] [s0] H r ↔ Runs xs sl d 155 16 [some (.ref a0), l1, l2, l3, l4] [.ref a0, s0] H r := q_aload_n (mo_155 15 rfl) rfl rfl
theorem r155_16 : Runs xs sl d 155 16 [l0, l1, l2, l3, l4] [.ref b1, s0] H r ↔ ∃ v, hO H b1 8 8 = some v ∧ Runs xs sl d 155 19 [l0, l1, l2, l3, l4] [v, s0] H r := q_getf (mo_155 16 rfl) mow_155 rfl rfl
theorem r155_19 : Runs xs sl d 155 19 [l0, some (.int i1), l2, l3, l4] [s1, s0] H r ↔ Runs xs sl d 155 20 [l0, some (.int i1), l2, l3, l4] [.int i1, s1, s0] H r := q_iload_n (mo_155 19 rfl) rfl rfl
theorem r155_20 : Runs xs sl d 155 20 [l0, l1, l2, l3, l4] [s2, s1, s0] H r ↔ Runs xs sl d 155 22 [l0, l1, l2, l3, l4] [.int 6, s2, s1, s0] H r := q_bipush (mo_155 20 rfl) rfl rfl
theorem r155_22 : Runs xs sl d 155 22 [l0, l1, l2, l3, l4] [.int u3, .int u2, s1, s0] H r ↔ Runs xs sl d 155 23 [l0, l1, l2, l3, l4] [.int (u2 * u3), s1, s0] H r := q_imul (mo_155 22 rfl) rfl
theorem r155_23 : Runs xs sl d 155 23 [l0, l1, l2, l3, some (.int i4)] [s2, s1, s0] H r ↔ Runs xs sl d 155 25 [l0, l1, l2, l3, some (.int i4)] [.int i4, s2, s1, s0] H r := q_iload (mo_155 23 rfl) rfl rfl
theorem r155_25 : Runs xs sl d 155 25 [l0, l1, l2, l3, l4] [.int u3, .int u2, s1, s0] H r ↔ Runs xs sl d 155 26 [l0, l1, l2, l3, l4] [.int (u2 + u3), s1, s0] H r := q_iadd (mo_155 25 rfl) rfl
theorem r155_26 : Runs xs sl d 155 26 [l0, l1, l2, l3, l4] [.int u2, .ref b1, s0] H r ↔ ∃ v, hA H b1 0 u2 = some v ∧ Runs xs sl d 155 27 [l0, l1, l2, l3, l4] [.int v, s0] H r := run_iald (mo_155 26 rfl) rfl
theorem r155_27 : Runs xs sl d 155 27 [some (.ref a0), l1, l2, l3, l4] [s1, s0] H r ↔ Runs xs sl d 155 28 [some (.ref a0), l1, l2, l3, l4] [.ref a0, s1, s0] H r := q_aload_n (mo_155 27 rfl) rfl rfl
theorem r155_28 : Runs xs sl d 155 28 [l0, l1, l2, l3, l4] [.ref b2, s1, s0] H r ↔ ∃ v, hO H b2 8 8 = some v ∧ Runs xs sl d 155 31 [l0, l1, l2, l3, l4] [v, s1, s0] H r := q_getf (mo_155 28 rfl) mow_155 rfl rfl
theorem r155_31 : Runs xs sl d 155 31 [l0, l1, some (.int i2), l3, l4] [s2, s1, s0] H r ↔ Runs xs sl d 155 32 [l0, l1, some (.int i2), l3, l4] [.int i2, s2, s1, s0] H r := q_iload_n (mo_155 31 rfl) rfl rfl
theorem r155_32 : Runs xs sl d 155 32 [l0, l1, l2, l3, l4] [s3, s2, s1, s0] H r ↔ Runs xs sl d 155 34 [l0, l1, l2, l3, l4] [.int 6, s3, s2, s1, s0] H r := q_bipush (mo_155 32 rfl) rfl rfl
theorem r155_34 : Runs xs sl d 155 34 [l0, l1, l2, l3, l4] [.int u4, .int u3, s2, s1, s0] H r ↔ Runs xs sl d 155 35 [l0, l1, l2, l3, l4] [.int (u3 * u4), s2, s1, s0] H r := q_imul (mo_155 34 rfl) rfl
theorem r155_35 : Runs xs sl d 155 35 [l0, l1, l2, l3, some (.int i4)] [s3, s2, s1, s0] H r ↔ Runs xs sl d 155 37 [l0, l1, l2, l3, some (.int i4)] [.int i4, s3, s2, s1, s0] H r := q_iload (mo_155 35 rfl) rfl rfl
theorem r155_37 : Runs xs sl d 155 37 [l0, l1, l2, l3, l4] [.int u4, .int u3, s2, s1, s0] H r ↔ Runs xs sl d 155 38 [l0, l1, l2, l3, l4] [.int (u3 + u4), s2, s1, s0] H r := q_iadd (mo_155 37 rfl) rfl
theorem r155_38 : Runs xs sl d 155 38 [l0, l1, l2, l3, l4] [.int u3, .ref b2, s1, s0] H r ↔ ∃ v, hA H b2 0 u3 = some v ∧ Runs xs sl d 155 39 [l0, l1, l2, l3, l4] [.int v, s1, s0] H r := run_iald (mo_155 38 rfl) rfl
theorem r155_39 : Runs xs sl d 155 39 [l0, l1, l2, l3, l4] [.int u2, .int u1, s0] H r ↔ Runs xs sl d 155 40 [l0, l1, l2, l3, l4] [.int (u1 - u2), s0] H r := q_isub (mo_155 39 rfl) rfl
theorem r155_40 : Runs xs sl (d + 1) 155 40 [l0, l1, l2, l3, l4] [.int u1, .int u0] H r ↔ Runs xs sl (d + 1) 155 43 [l0, l1, l2, l3, l4] [.int (if 0 ≤ u1 then u1 else 0 - u1), .int u0] H r := q_mabs (mo_155 40 rfl) mow_155 rfl (Nat.le_of_ble_eq_true rfl) rfl
theorem r155_43 : Runs xs sl d 155 43 [l0, l1, l2, l3, l4] [.int u1, .int u0] H r ↔ Runs xs sl d 155 44 [l0, l1, l2, l3, l4] [.int (u0 + u1)] H r := q_iadd (mo_155 43 rfl) rfl
theorem r155_44 : Runs xs sl d 155 44 [l0, l1, some (.int i2), l3, l4] [.int u0] H r ↔ Runs xs sl d 155 45 [l0, l1, some (.int i2), some (.int u0), l4] [] H r := q_istore_n (mo_155 44 rfl) (Nat.le_of_ble_eq_true rfl) rfl rfl
theorem r155_45 : Runs xs sl d 155 45 [l0, l1, l2, some (.int i3), some (.int i4)] [] H r ↔ Runs xs sl d 155 48 [l0, l1, l2, some (.int i3), some (.int (i4 + 1))] [] H r := q_iinc (mo_155 45 rfl) rfl (Nat.le_of_ble_eq_true rfl) rfl rfl
theorem r155_48 : Runs xs sl d 155 48 [l0, l1, l2, l3, l4] [] H r ↔ Runs xs sl d 155 5 [l0, l1, l2, l3, l4] [] H r := q_goto (mo_155 48 rfl) rfl
theorem r155_51 : Runs xs sl d 155 51 [l0, l1, l2, some (.int i3), l4] [] H r ↔ Runs xs sl d 155 52 [l0, l1, l2, some (.int i3), l4] [.int i3] H r := q_iload_n (mo_155 51 rfl) rfl rfl
theorem r155_52 : Runs xs sl d 155 52 [l0, l1, l2, l3, l4] [.int u0] H r ↔ r = (some (.int u0), H) := q_iret (mo_155 52 rfl) mrt_155
theorem r156_0 : Runs xs sl d 156 0 [l0, l1, l2, l3, l4] [] H r ↔ Runs xs sl d 156 1 [l0, l1, l2, l3, l4] [.int 0] H r := q_iconst (mo_156 0 rfl) rfl rfl
theorem r156_1 : Runs xs sl d 156 1 [l0, some (.int i1), l2, l3, l4] [.int u0] H r ↔ Runs xs sl d 156 2 [l0, some (.int i1), some (.int u0), l3, l4] [] H r := q_istore_n (mo_156 1 rfl) (Nat.le_of_ble_eq_true rfl) rfl rfl
theorem r156_2 : Runs xs sl d 156 2 [l0, l1, l2, l3, l4] [] H r ↔ Runs xs sl d 156 3 [l0, l1, l2, l3, l4] [.int 0] H r := q_iconst (mo_156 2 rfl) rfl rfl
theorem r156_3 : Runs xs sl d 156 3 [l0, l1, some (.int i2), l3, l4] [.int u0] H r ↔ Runs xs sl d 156 4 [l0, l1, some (.int i2), some (.int u0), l4] [] H r := q_istore_n (mo_156 3 rfl) (Nat.le_of_ble_eq_true rfl) rfl rfl
theorem r156_4 : Runs xs sl d 156 4 [l0, l1, l2, l3, l4] [] H r ↔ Runs xs sl d 156 5 [l0, l1, l2, l3, l4] [.int 0] H r := q_iconst (mo_156 4 rfl) rfl rfl
theorem r156_5 : Runs xs sl d 156 5 [l0, l1, l2, some (.int i3), l4] [.int u0] H r ↔ Runs xs sl d 156 7 [l0, l1, l2, some (.int i3), some (.int u0)] [] H r := q_istore (mo_156 5 rfl) (Nat.le_of_ble_eq_true rfl) rfl rfl
theorem r156_7 : Runs xs sl d 156 7 [l0, l1, l2, l3, some (.int i4)] [] H r ↔ Runs xs sl d 156 9 [l0, l1, l2, l3, some (.int i4)] [.int i4] H r := q_iload (mo_156 7 rfl) rfl rfl
theorem r156_9 : Runs xs sl d 156 9 [some (.ref a0), l1, l2, l3, l4] [s0] H r ↔ Runs xs sl d 156 10 [some (.ref a0), l1, l2, l3, l4] [.ref a0, s0] H r := q_aload_n (mo_156 9 rfl) rfl rfl
theorem r156_10 : Runs xs sl d 156 10 [l0, l1, l2, l3, l4] [.ref b1, s0] H r ↔ ∃ v, hO H b1 8 2 = some v ∧ Runs xs sl d 156 13 [l0, l1, l2, l3, l4] [v, s0] H r := q_getf (mo_156 10 rfl) mow_156 rfl rfl
theorem r156_13 : Runs xs sl d 156 13 [l0, l1, l2, l3, l4] [.int u1, .int u0] H r ↔ if u1 ≤ u0 then Runs xs sl d 156 44 [l0, l1, l2, l3, l4] [] H r else Runs xs sl d 156 16 [l0, l1, l2, l3, l4] [] H r := q_icmp_ge (mo_156 13 rfl) rfl rfl
theorem r156_16 : Runs xs sl d 156 16 [l0, l1, some (.int i2), l3, l4] [] H r ↔ Runs xs sl d 156 17 [l0, l1, some (.int i2), l3, l4] [.int i2] H r := q_iload_n (mo_156 16 rfl) rfl rfl
theorem r156_17 : Runs xs sl d 156 17 [l0, l1, l2, l3, some (.int i4)] [s0] H r ↔ Runs xs sl d 156 19 [l0, l1, l2, l3, some (.int i4)] [.int i4, s0] H r := q_iload (mo_156 17 rfl) rfl rfl
theorem r156_19 : Runs xs sl d 156 19 [l0, l1, l2, l3, l4] [.int u1, .int u0] H r ↔ Runs xs sl d 156 20 [l0, l1, l2, l3, l4] [.int (u0 >>> (u1 &&& 31))] H r := q_ishr (mo_156 19 rfl) rfl
theorem r156_20 : Runs xs sl d 156 20 [l0, l1, l2, l3, l4] [s0] H r ↔ Runs xs sl d 156 21 [l0, l1, l2, l3, l4] [.int 1, s0] H r := q_iconst (mo_156 20 rfl) rfl rfl
theorem r156_21 : Runs xs sl d 156 21 [l0, l1, l2, l3, l4] [.int u1, .int u0] H r ↔ Runs xs sl d 156 22 [l0, l1, l2, l3, l4] [.int (u0 &&& u1)] H r := q_iand (mo_156 21 rfl) rfl
theorem r156_22 : Runs xs sl d 156 22 [l0, l1, l2, l3, l4] [.int u0] H r ↔ if ¬ u0 = 0 then Runs xs sl d 156 38 [l0, l1, l2, l3, l4] [] H r else Runs xs sl d 156 25 [l0, l1, l2, l3, l4] [] H r := q_if_ne (mo_156 22 rfl) rfl rfl
theorem r156_25 : Runs xs sl d 156 25 [l0, l1, some (.int i2), l3, l4] [] H r ↔ Runs xs sl d 156 26 [l0, l1, some (.int i2), l3, l4] [.int i2] H r := q_iload_n (mo_156 25 rfl) rfl rfl
theorem r156_26 : Runs xs sl d 156 26 [some (.ref a0), l1, l2, l3, l4] [s0] H r ↔ Runs xs sl d 156 27 [some (.ref a0), l1, l2, l3, l4] [.ref a0, s0] H r := q_aload_n (mo_156 26 rfl) rfl rfl
theorem r156_27 : Runs xs sl d 156 27 [l0, some (.int i1), l2, l3, l4] [s1, s0] H r ↔ Runs xs sl d 156 28 [l0, some (.int i1), l2, l3, l4] [.int i1, s1, s0] H r := q_iload_n (mo_156 27 rfl) rfl rfl
theorem r156_28 : Runs xs sl d 156 28 [l0, l1, l2, l3, some (.int i4)] [s2, s1, s0] H r ↔ Runs xs sl d 156 30 [l0, l1, l2, l3, some (.int i4)] [.int i4, s2, s1, s0] H r := q_iload (mo_156 28 rfl) rfl rfl
theorem r156_30 (hc : hC H b1 = some 8) : Runs xs sl (d + 1) 156 30 [l0, l1, l2, l3, l4] [.int u3, .int u2, .ref b1, .int u0] H r ↔ ∃ v H1, Runs xs sl d 157 0 [some (.ref b1), some (.int u2), some (.int u3), none, none] [] H (v, H1) ∧ Runs xs sl (d + 1) 156 33 [l0, l1, l2, l3, l4] (v.toList ++ [.int u0]) H1 r := q_callV (M' := 157) (as := [.int u2, .int u3]) (rest := [.int u0]) (mo_156 30 rfl) mow_156 rfl mcs_157 mmx_157 rfl (Nat.le_of_ble_eq_true rfl) (Nat.le_of_ble_eq_true rfl) rfl rfl hc
theorem r156_33 : Runs xs sl d 156 33 [l0, l1, l2, l3, l4] [.int u1, .int u0] H r ↔ Runs xs sl d 156 34 [l0, l1, l2, l3, l4] [.int (u0 ||| u1)] H r := q_ior (mo_156 33 rfl) rfl
theorem r156_34 : Runs xs sl d 156 34 [l0, some (.int i1), l2, l3, l4] [.int u0] H r ↔ Runs xs sl d 156 35 [l0, some (.int i1), some (.int u0), l3, l4] [] H r := q_istore_n (mo_156 34 rfl) (Nat.le_of_ble_eq_true rfl) rfl rfl
theorem r156_35 : Runs xs sl d 156 35 [l0, l1, some (.int i2), some (.int i3), l4] [] H r ↔ Runs xs sl d 156 38 [l0, l1, some (.int i2), some (.int (i3 + 1)), l4] [] H r := q_iinc (mo_156 35 rfl) rfl (Nat.le_of_ble_eq_true rfl) rfl rfl
theorem r156_38 : Runs xs sl d 156 38 [l0, l1, l2, some (.int i3), some (.int i4)] [] H r ↔ Runs xs sl d 156 41 [l0, l1, l2, some (.int i3), some (.int (i4 + 1))] [] H r := q_iinc (mo_156 38 rfl) rfl (Nat.le_of_ble_eq_true rfl) rfl rfl
theorem r156_41 : Runs xs sl d 156 41 [l0, l1, l2, l3, l4] [] H r ↔ Runs xs sl d 156 7 [l0, l1, l2, l3, l4] [] H r := q_goto (mo_156 41 rfl) rfl
theorem r156_44 : Runs xs sl d 156 44 [l0, l1, l2, some (.int i3), l4] [] H r ↔ Runs xs sl d 156 45 [l0, l1, l2, some (.int i3), l4] [.int i3] H r := q_iload_n (mo_156 44 rfl) rfl rfl
theorem r156_45 : Runs xs sl d 156 45 [l0, l1, l2, l3, l4] [.int u0] H r ↔ r = (some (.int u0), H) := q_iret (mo_156 45 rfl) mrt_156
theorem r157_0 : Runs xs sl d 157 0 [l0, l1, l2, l3, l4] [] H r ↔ Runs xs sl d 157 1 [l0, l1, l2, l3, l4] [.int 1] H r := q_iconst (mo_157 0 rfl) rfl rfl
theorem r157_1 : Runs xs sl d 157 1 [l0, l1, some (.int i2), l3, l4] [s0] H r ↔ Runs xs sl d 157 2 [l0, l1, some (.int i2), l3, l4] [.int i2, s0] H r := q_iload_n (mo_157 1 rfl) rfl rfl
theorem r157_2 : Runs xs sl d 157 2 [l0, l1, l2, l3, l4] [.int u1, .int u0] H r ↔ Runs xs sl d 157 3 [l0, l1, l2, l3, l4] [.int (u0 <<< (u1 &&& 31))] H r := q_ishl (mo_157 2 rfl) rfl
theorem r157_3 : Runs xs sl d 157 3 [l0, l1, some (.int i2), l3, l4] [.int u0] H r ↔ Runs xs sl d 157 4 [l0, l1, some (.int i2), some (.int u0), l4] [] H r := q_istore_n (mo_157 3 rfl) (Nat.le_of_ble_eq_true rfl) rfl rfl
theorem r157_4 : Runs xs sl d 157 4 [l0, l1, l2, l3, l4] [] H r ↔ Runs xs sl d 157 5 [l0, l1, l2, l3, l4] [.int 1] H r := q_iconst (mo_157 4 rfl) rfl rfl
theorem r157_5 : Runs xs sl d 157 5 [l0, l1, l2, some (.int i3), l4] [.int u0] H r ↔ Runs xs sl d 157 7 [l0, l1, l2, some (.int i3), some (.int u0)] [] H r := q_istore (mo_157 5 rfl) (Nat.le_of_ble_eq_true rfl) rfl rfl
theorem r157_7 : Runs xs sl d 157 7 [l0, l1, l2, l3, some (.int i4)] [] H r ↔ Runs xs sl d 157 9 [l0, l1, l2, l3, some (.int i4)] [.int i4] H r := q_iload (mo_157 7 rfl) rfl rfl
theorem r157_9 : Runs xs sl d 157 9 [some (.ref a0), l1, l2, l3, l4] [s0] H r ↔ Runs xs sl d 157 10 [some (.ref a0), l1, l2, l3, l4] [.ref a0, s0] H r := q_aload_n (mo_157 9 rfl) rfl rfl
theorem r157_10 : Runs xs sl d 157 10 [l0, l1, l2, l3, l4] [.ref b1, s0] H r ↔ ∃ v, hO H b1 8 2 = some v ∧ Runs xs sl d 157 13 [l0, l1, l2, l3, l4] [v, s0] H r := q_getf (mo_157 10 rfl) mow_157 rfl rfl
theorem r157_13 : Runs xs sl d 157 13 [l0, l1, l2, l3, l4] [.int u1, .int u0] H r ↔ if u1 ≤ u0 then Runs xs sl d 157 29 [l0, l1, l2, l3, l4] [] H r else Runs xs sl d 157 16 [l0, l1, l2, l3, l4] [] H r := q_icmp_ge (mo_157 13 rfl) rfl rfl
theorem r157_16 : Runs xs sl d 157 16 [some (.ref a0), l1, l2, l3, l4] [] H r ↔ Runs xs sl d 157 17 [some (.ref a0), l1, l2, l3, l4] [.ref a0] H r := q_aload_n (mo_157 16 rfl) rfl rfl
theorem r157_17 : Runs xs sl d 157 17 [l0, some (.int i1), l2, l3, l4] [s0] H r ↔ Runs xs sl d 157 18 [l0, some (.int i1), l2, l3, l4] [.int i1, s0] H r := q_iload_n (mo_157 17 rfl) rfl rfl
theorem r157_18 : Runs xs sl d 157 18 [l0, l1, l2, some (.int i3), l4] [s1, s0] H r ↔ Runs xs sl d 157 19 [l0, l1, l2, some (.int i3), l4] [.int i3, s1, s0] H r := q_iload_n (mo_157 18 rfl) rfl rfl
theorem r157_19 (hc : hC H b0 = some 8) : Runs xs sl (d + 1) 157 19 [l0, l1, l2, l3, l4] [.int u2, .int u1, .ref b0] H r ↔ ∃ v H1, Runs xs sl d 158 0 [some (.ref b0), some (.int u1), some (.int u2), none, none] [] H (v, H1) ∧ Runs xs sl (d + 1) 157 22 [l0, l1, l2, l3, l4] (v.toList ++ []) H1 r := q_callV (M' := 158) (as := [.int u1, .int u2]) (rest := []) (mo_157 19 rfl) mow_157 rfl mcs_158 mmx_158 rfl (Nat.le_of_ble_eq_true rfl) (Nat.le_of_ble_eq_true rfl) rfl rfl hc
theorem r157_22 : Runs xs sl d 157 22 [l0, l1, some (.int i2), l3, l4] [.int u0] H r ↔ Runs xs sl d 157 23 [l0, l1, some (.int i2), some (.int u0), l4] [] H r := q_istore_n (mo_157 22 rfl) (Nat.le_of_ble_eq_true rfl) rfl rfl
theorem r157_23 : Runs xs sl d 157 23 [l0, l1, l2, some (.int i3), some (.int i4)] [] H r ↔ Runs xs sl d 157 26 [l0, l1, l2, some (.int i3), some (.int (i4 + 1))] [] H r := q_iinc (mo_157 23 rfl) rfl (Nat.le_of_ble_eq_true rfl) rfl rfl
theorem r157_26 : Runs xs sl d 157 26 [l0, l1, l2, l3, l4] [] H r ↔ Runs xs sl d 157 7 [l0, l1, l2, l3, l4] [] H r := q_goto (mo_157 26 rfl) rfl
theorem r157_29 : Runs xs sl d 157 29 [l0, l1, l2, some (.int i3), l4] [] H r ↔ Runs xs sl d 157 30 [l0, l1, l2, some (.int i3), l4] [.int i3] H r := q_iload_n (mo_157 29 rfl) rfl rfl
theorem r157_30 : Runs xs sl d 157 30 [l0, l1, l2, l3, l4] [.int u0] H r ↔ r = (some (.int u0), H) := q_iret (mo_157 30 rfl) mrt_157
theorem r158_0 : Runs xs sl d 158 0 [l0, l1, some (.int i2), l3, l4] [] H r ↔ Runs xs sl d 158 1 [l0, l1, some (.int i2), l3, l4] [.int i2] H r := q_iload_n (mo_158 0 rfl) rfl rfl
theorem r158_1 : Runs xs sl d 158 1 [l0, l1, some (.int i2), l3, l4] [.int u0] H r ↔ Runs xs sl d 158 2 [l0, l1, some (.int i2), some (.int u0), l4] [] H r := q_istore_n (mo_158 1 rfl) (Nat.le_of_ble_eq_true rfl) rfl rfl
theorem r158_2 : Runs xs sl d 158 2 [l0, l1, l2, l3, l4] [] H r ↔ Runs xs sl d 158 3 [l0, l1, l2, l3, l4] [.int 0] H r := q_iconst (mo_158 2 rfl) rfl rfl
theorem r158_3 : Runs xs sl d 158 3 [l0, l1, l2, some (.int i3), l4] [.int u0] H r ↔ Runs xs sl d 158 5 [l0, l1, l2, some (.int i3), some (.int u0)] [] H r := q_istore (mo_158 3 rfl) (Nat.le_of_ble_eq_true rfl) rfl rfl
theorem r158_5 : Runs xs sl d 158 5 [l0, l1, l2, l3, some (.int i4)] [] H r ↔ Runs xs sl d 158 7 [l0, l1, l2, l3, some (.int i4)] [.int i4] H r := q_iload (mo_158 5 rfl) rfl rfl
theorem r158_7 : Runs xs sl d 158 7 [some (.ref a0), l1, l2, l3, l4] [s0] H r ↔ Runs xs sl d 158 8 [some (.ref a0), l1, l2, l3, l4] [.ref a0, s0] H r := q_aload_n (mo_158 7 rfl) rfl rfl
theorem r158_8 : Runs xs sl d 158 8 [l0, l1, l2, l3, l4] [.ref b1, s0] H r ↔ ∃ v, hO H b1 8 2 = some v ∧ Runs xs sl d 158 11 [l0, l1, l2, l3, l4] [v, s0] H r := q_getf (mo_158 8 rfl) mow_158 rfl rfl
theorem r158_11 : Runs xs sl d 158 11 [l0, l1, l2, l3, l4] [.int u1, .int u0] H r ↔ if u1 ≤ u0 then Runs xs sl d 158 47 [l0, l1, l2, l3, l4] [] H r else Runs xs sl d 158 14 [l0, l1, l2, l3, l4] [] H r := q_icmp_ge (mo_158 11 rfl) rfl rfl
theorem r158_14 : Runs xs sl d 158 14 [l0, l1, some (.int i2), l3, l4] [] H r ↔ Runs xs sl d 158 15 [l0, l1, some (.int i2), l3, l4] [.int i2] H r := q_iload_n (mo_158 14 rfl) rfl rfl
theorem r158_15 : Runs xs sl d 158 15 [l0, l1, l2, l3, some (.int i4)] [s0] H r ↔ Runs xs sl d 158 17 [l0, l1, l2, l3, some (.int i4)] [.int i4, s0] H r := q_iload (mo_158 15 rfl) rfl rfl
theorem r158_17 : Runs xs sl d 158 17 [l0, l1, l2, l3, l4] [.int u1, .int u0] H r ↔ Runs xs sl d 158 18 [l0, l1, l2, l3, l4] [.int (u0 >>> (u1 &&& 31))] H r := q_ishr (mo_158 17 rfl) rfl
theorem r158_18 : Runs xs sl d 158 18 [l0, l1, l2, l3, l4] [s0] H r ↔ Runs xs sl d 158 19 [l0, l1, l2, l3, l4] [.int 1, s0] H r := q_iconst (mo_158 18 rfl) rfl rfl
theorem r158_19 : Runs xs sl d 158 19 [l0, l1, l2, l3, l4] [.int u1, .int u0] H r ↔ Runs xs sl d 158 20 [l0, l1, l2, l3, l4] [.int (u0 &&& u1)] H r := q_iand (mo_158 19 rfl) rfl
theorem r158_20 : Runs xs sl d 158 20 [l0, l1, l2, l3, l4] [.int u0] H r ↔ if ¬ u0 = 0 then Runs xs sl d 158 41 [l0, l1, l2, l3, l4] [] H r else Runs xs sl d 158 23 [l0, l1, l2, l3, l4] [] H r := q_if_ne (mo_158 20 rfl) rfl rfl
theorem r158_23 : Runs xs sl d 158 23 [some (.ref a0), l1, l2, l3, l4] [] H r ↔ Runs xs sl d 158 24 [some (.ref a0), l1, l2, l3, l4] [.ref a0] H r := q_aload_n (mo_158 23 rfl) rfl rfl
theorem r158_24 : Runs xs sl d 158 24 [l0, some (.int i1), l2, l3, l4] [s0] H r ↔ Runs xs sl d 158 25 [l0, some (.int i1), l2, l3, l4] [.int i1, s0] H r := q_iload_n (mo_158 24 rfl) rfl rfl
theorem r158_25 : Runs xs sl d 158 25 [l0, l1, some (.int i2), l3, l4] [s1, s0] H r ↔ Runs xs sl d 158 26 [l0, l1, some (.int i2), l3, l4] [.int i2, s1, s0] H r := q_iload_n (mo_158 25 rfl) rfl rfl
theorem r158_26 : Runs xs sl d 158 26 [l0, l1, l2, l3, some (.int i4)] [s2, s1, s0] H r ↔ Runs xs sl d 158 28 [l0, l1, l2, l3, some (.int i4)] [.int i4, s2, s1, s0] H r := q_iload (mo_158 26 rfl) rfl rfl
theorem r158_28 (hc : hC H b0 = some 8) : Runs xs sl (d + 1) 158 28 [l0, l1, l2, l3, l4] [.int u3, .int u2, .int u1, .ref b0] H r ↔ ∃ v H1, Runs xs sl d 159 0 [some (.ref b0), some (.int u1), some (.int u2), some (.int u3), none] [] H (v, H1) ∧ Runs xs sl (d + 1) 158 31 [l0, l1, l2, l3, l4] (v.toList ++ []) H1 r := q_callV (M' := 159) (as := [.int u1, .int u2, .int u3]) (rest := []) (mo_158 28 rfl) mow_158 rfl mcs_159 mmx_159 rfl (Nat.le_of_ble_eq_true rfl) (Nat.le_of_ble_eq_true rfl) rfl rfl hc
theorem r158_31 : Runs xs sl d 158 31 [l0, l1, l2, l3, l4] [.int u0] H r ↔ if u0 = 0 then Runs xs sl d 158 41 [l0, l1, l2, l3, l4] [] H r else Runs xs sl d 158 34 [l0, l1, l2, l3, l4] [] H r := q_if_eq (mo_158 31 rfl) rfl rfl
theorem r158_34 : Runs xs sl d 158 34 [l0, l1, l2, some (.int i3), l4] [] H r ↔ Runs xs sl d 158 35 [l0, l1, l2, some (.int i3), l4] [.int i3] H r := q_iload_n (mo_158 34 rfl) rfl rfl
theorem r158_35 : Runs xs sl d 158 35 [l0, l1, l2, l3, l4] [s0] H r ↔ Runs xs sl d 158 36 [l0, l1, l2, l3, l4] [.int 1, s0] H r := q_iconst (mo_158 35 rfl) rfl rfl
theorem r158_36 : Runs xs sl d 158 36 [l0, l1, l2, l3, some (.int i4)] [s1, s0] H r ↔ Runs xs sl d 158 38 [l0, l1, l2, l3, some (.int i4)] [.int i4, s1, s0] H r := q_iload (mo_158 36 rfl) rfl rfl
theorem r158_38 : Runs xs sl d 158 38 [l0, l1, l2, l3, l4] [.int u2, .int u1, s0] H r ↔ Runs xs sl d 158 39 [l0, l1, l2, l3, l4] [.int (u1 <<< (u2 &&& 31)), s0] H r := q_ishl (mo_158 38 rfl) rfl
theorem r158_39 : Runs xs sl d 158 39 [l0, l1, l2, l3, l4] [.int u1, .int u0] H r ↔ Runs xs sl d 158 40 [l0, l1, l2, l3, l4] [.int (u0 ||| u1)] H r := q_ior (mo_158 39 rfl) rfl
theorem r158_40 : Runs xs sl d 158 40 [l0, l1, some (.int i2), l3, l4] [.int u0] H r ↔ Runs xs sl d 158 41 [l0, l1, some (.int i2), some (.int u0), l4] [] H r := q_istore_n (mo_158 40 rfl) (Nat.le_of_ble_eq_true rfl) rfl rfl
theorem r158_41 : Runs xs sl d 158 41 [l0, l1, l2, some (.int i3), some (.int i4)] [] H r ↔ Runs xs sl d 158 44 [l0, l1, l2, some (.int i3), some (.int (i4 + 1))] [] H r := q_iinc (mo_158 41 rfl) rfl (Nat.le_of_ble_eq_true rfl) rfl rfl
theorem r158_44 : Runs xs sl d 158 44 [l0, l1, l2, l3, l4] [] H r ↔ Runs xs sl d 158 5 [l0, l1, l2, l3, l4] [] H r := q_goto (mo_158 44 rfl) rfl
theorem r158_47 : Runs xs sl d 158 47 [l0, l1, l2, some (.int i3), l4] [] H r ↔ Runs xs sl d 158 48 [l0, l1, l2, some (.int i3), l4] [.int i3] H r := q_iload_n (mo_158 47 rfl) rfl rfl
theorem r158_48 : Runs xs sl d 158 48 [l0, l1, l2, l3, l4] [.int u0] H r ↔ r = (some (.int u0), H) := q_iret (mo_158 48 rfl) mrt_158
theorem r159_0 : Runs xs sl d 159 0 [l0, l1, l2, l3, l4] [] H r ↔ Runs xs sl d 159 1 [l0, l1, l2, l3, l4] [.int 0] H r := q_iconst (mo_159 0 rfl) rfl rfl
theorem r159_1 : Runs xs sl d 159 1 [l0, l1, l2, some (.int i3), l4] [.int u0] H r ↔ Runs xs sl d 159 3 [l0, l1, l2, some (.int i3), some (.int u0)] [] H r := q_istore (mo_159 1 rfl) (Nat.le_of_ble_eq_true rfl) rfl rfl
theorem r159_3 : Runs xs sl d 159 3 [l0, l1, l2, l3, some (.int i4)] [] H r ↔ Runs xs sl d 159 5 [l0, l1, l2, l3, some (.int i4)] [.int i4] H r := q_iload (mo_159 3 rfl) rfl rfl
theorem r159_5 : Runs xs sl d 159 5 [some (.ref a0), l1, l2, l3, l4] [s0] H r ↔ Runs xs sl d 159 6 [some (.ref a0), l1, l2, l3, l4] [.ref a0, s0] H r := q_aload_n (mo_159 5 rfl) rfl rfl
theorem r159_6 : Runs xs sl d 159 6 [l0, l1, l2, l3, l4] [.ref b1, s0] H r ↔ ∃ v, hO H b1 8 2 = some v ∧ Runs xs sl d 159 9 [l0, l1, l2, l3, l4] [v, s0] H r := q_getf (mo_159 6 rfl) mow_159 rfl rfl
theorem r159_9 : Runs xs sl d 159 9 [l0, l1, l2, l3, l4] [.int u1, .int u0] H r ↔ if u1 ≤ u0 then Runs xs sl d 159 40 [l0, l1, l2, l3, l4] [] H r else Runs xs sl d 159 12 [l0, l1, l2, l3, l4] [] H r := q_icmp_ge (mo_159 9 rfl) rfl rfl
theorem r159_12 : Runs xs sl d 159 12 [l0, l1, some (.int i2), l3, l4] [] H r ↔ Runs xs sl d 159 13 [l0, l1, some (.int i2), l3, l4] [.int i2] H r := q_iload_n (mo_159 12 rfl) rfl rfl
theorem r159_13 : Runs xs sl d 159 13 [l0, l1, l2, l3, some (.int i4)] [s0] H r ↔ Runs xs sl d 159 15 [l0, l1, l2, l3, some (.int i4)] [.int i4, s0] H r := q_iload (mo_159 13 rfl) rfl rfl
theorem r159_15 : Runs xs sl d 159 15 [l0, l1, l2, l3, l4] [.int u1, .int u0] H r ↔ Runs xs sl d 159 16 [l0, l1, l2, l3, l4] [.int (u0 >>> (u1 &&& 31))] H r := q_ishr (mo_159 15 rfl) rfl
theorem r159_16 : Runs xs sl d 159 16 [l0, l1, l2, l3, l4] [s0] H r ↔ Runs xs sl d 159 17 [l0, l1, l2, l3, l4] [.int 1, s0] H r := q_iconst (mo_159 16 rfl) rfl rfl
theorem r159_17 : Runs xs sl d 159 17 [l0, l1, l2, l3, l4] [.int u1, .int u0] H r ↔ Runs xs sl d 159 18 [l0, l1, l2, l3, l4] [.int (u0 &&& u1)] H r := q_iand (mo_159 17 rfl) rfl
theorem r159_18 : Runs xs sl d 159 18 [l0, l1, l2, l3, l4] [.int u0] H r ↔ if u0 = 0 then Runs xs sl d 159 34 [l0, l1, l2, l3, l4] [] H r else Runs xs sl d 159 21 [l0, l1, l2, l3, l4] [] H r := q_if_eq (mo_159 18 rfl) rfl rfl
theorem r159_21 : Runs xs sl d 159 21 [some (.ref a0), l1, l2, l3, l4] [] H r ↔ Runs xs sl d 159 22 [some (.ref a0), l1, l2, l3, l4] [.ref a0] H r := q_aload_n (mo_159 21 rfl) rfl rfl
theorem r159_22 : Runs xs sl d 159 22 [l0, l1, l2, l3, some (.int i4)] [s0] H r ↔ Runs xs sl d 159 24 [l0, l1, l2, l3, some (.int i4)] [.int i4, s0] H r := q_iload (mo_159 22 rfl) rfl rfl
theorem r159_24 : Runs xs sl d 159 24 [l0, l1, l2, some (.int i3), l4] [s1, s0] H r ↔ Runs xs sl d 159 25 [l0, l1, l2, some (.int i3), l4] [.int i3, s1, s0] H r := q_iload_n (mo_159 24 rfl) rfl rfl
theorem r159_25 (hc : hC H b0 = some 8) : Runs xs sl (d + 1) 159 25 [l0, l1, l2, l3, l4] [.int u2, .int u1, .ref b0] H r ↔ ∃ v H1, Runs xs sl d 155 0 [some (.ref b0), some (.int u1), some (.int u2), none, none] [] H (v, H1) ∧ Runs xs sl (d + 1) 159 28 [l0, l1, l2, l3, l4] (v.toList ++ []) H1 r := q_callV (M' := 155) (as := [.int u1, .int u2]) (rest := []) (mo_159 25 rfl) mow_159 rfl mcs_155 mmx_155 rfl (Nat.le_of_ble_eq_true rfl) (Nat.le_of_ble_eq_true rfl) rfl rfl hc
theorem r159_28 : Runs xs sl d 159 28 [l0, some (.int i1), l2, l3, l4] [s0] H r ↔ Runs xs sl d 159 29 [l0, some (.int i1), l2, l3, l4] [.int i1, s0] H r := q_iload_n (mo_159 28 rfl) rfl rfl
theorem r159_29 : Runs xs sl d 159 29 [l0, l1, l2, l3, l4] [.int u1, .int u0] H r ↔ if u1 < u0 then Runs xs sl d 159 34 [l0, l1, l2, l3, l4] [] H r else Runs xs sl d 159 32 [l0, l1, l2, l3, l4] [] H r := q_icmp_gt (mo_159 29 rfl) rfl rfl
theorem r159_32 : Runs xs sl d 159 32 [l0, l1, l2, l3, l4] [] H r ↔ Runs xs sl d 159 33 [l0, l1, l2, l3, l4] [.int 1] H r := q_iconst (mo_159 32 rfl) rfl rfl
theorem r159_33 (h : u0 = 0 ∨ u0 = 1) : Runs xs sl d 159 33 [l0, l1, l2, l3, l4] [.int u0] H r ↔ r = (some (.int u0), H) := q_zret (mo_159 33 rfl) mrt_159 h
theorem r159_34 : Runs xs sl d 159 34 [l0, l1, l2, some (.int i3), some (.int i4)] [] H r ↔ Runs xs sl d 159 37 [l0, l1, l2, some (.int i3), some (.int (i4 + 1))] [] H r := q_iinc (mo_159 34 rfl) rfl (Nat.le_of_ble_eq_true rfl) rfl rfl
theorem r159_37 : Runs xs sl d 159 37 [l0, l1, l2, l3, l4] [] H r ↔ Runs xs sl d 159 3 [l0, l1, l2, l3, l4] [] H r := q_goto (mo_159 37 rfl) rfl
theorem r159_40 : Runs xs sl d 159 40 [l0, l1, l2, l3, l4] [] H r ↔ Runs xs sl d 159 41 [l0, l1, l2, l3, l4] [.int 0] H r := q_iconst (mo_159 40 rfl) rfl rfl
theorem r159_41 (h : u0 = 0 ∨ u0 = 1) : Runs xs sl d 159 41 [l0, l1, l2, l3, l4] [.int u0] H r ↔ r = (some (.int u0), H) := q_zret (mo_159 41 rfl) mrt_159 h
theorem r160_0 : Runs xs sl d 160 0 [l0, l1, l2, l3, l4] [] H r ↔ Runs xs sl d 160 1 [l0, l1, l2, l3, l4] [.int 0] H r := q_iconst (mo_160 0 rfl) rfl rfl
theorem r160_1 : Runs xs sl d 160 1 [l0, some (.int i1), l2, l3, l4] [.int u0] H r ↔ Runs xs sl d 160 2 [l0, some (.int i1), some (.int u0), l3, l4] [] H r := q_istore_n (mo_160 1 rfl) (Nat.le_of_ble_eq_true rfl) rfl rfl
theorem r160_2 : Runs xs sl d 160 2 [l0, l1, l2, l3, l4] [] H r ↔ Runs xs sl d 160 3 [l0, l1, l2, l3, l4] [.int 0] H r := q_iconst (mo_160 2 rfl) rfl rfl
theorem r160_3 : Runs xs sl d 160 3 [l0, l1, some (.int i2), l3, l4] [.int u0] H r ↔ Runs xs sl d 160 4 [l0, l1, some (.int i2), some (.int u0), l4] [] H r := q_istore_n (mo_160 3 rfl) (Nat.le_of_ble_eq_true rfl) rfl rfl
theorem r160_4 : Runs xs sl d 160 4 [l0, l1, l2, some (.int i3), l4] [] H r ↔ Runs xs sl d 160 5 [l0, l1, l2, some (.int i3), l4] [.int i3] H r := q_iload_n (mo_160 4 rfl) rfl rfl
theorem r160_5 : Runs xs sl d 160 5 [some (.ref a0), l1, l2, l3, l4] [s0] H r ↔ Runs xs sl d 160 6 [some (.ref a0), l1, l2, l3, l4] [.ref a0, s0] H r := q_aload_n (mo_160 5 rfl) rfl rfl
theorem r160_6 : Runs xs sl d 160 6 [l0, l1, l2, l3, l4] [.ref b1, s0] H r ↔ ∃ v, hO H b1 8 2 = some v ∧ Runs xs sl d 160 9 [l0, l1, l2, l3, l4] [v, s0] H r := q_getf (mo_160 6 rfl) mow_160 rfl rfl
theorem r160_9 : Runs xs sl d 160 9 [l0, l1, l2, l3, l4] [.int u1, .int u0] H r ↔ if u1 ≤ u0 then Runs xs sl d 160 27 [l0, l1, l2, l3, l4] [] H r else Runs xs sl d 160 12 [l0, l1, l2, l3, l4] [] H r := q_icmp_ge (mo_160 9 rfl) rfl rfl
theorem r160_12 : Runs xs sl d 160 12 [l0, l1, some (.int i2), l3, l4] [] H r ↔ Runs xs sl d 160 13 [l0, l1, some (.int i2), l3, l4] [.int i2] H r := q_iload_n (mo_160 12 rfl) rfl rfl
theorem r160_13 : Runs xs sl d 160 13 [some (.ref a0), l1, l2, l3, l4] [s0] H r ↔ Runs xs sl d 160 14 [some (.ref a0), l1, l2, l3, l4] [.ref a0, s0] H r := q_aload_n (mo_160 13 rfl) rfl rfl
theorem r160_14 : Runs xs sl d 160 14 [l0, l1, l2, some (.int i3), l4] [s1, s0] H r ↔ Runs xs sl d 160 15 [l0, l1, l2, some (.int i3), l4] [.int i3, s1, s0] H r := q_iload_n (mo_160 14 rfl) rfl rfl
theorem r160_15 : Runs xs sl d 160 15 [l0, some (.int i1), l2, l3, l4] [s2, s1, s0] H r ↔ Runs xs sl d 160 16 [l0, some (.int i1), l2, l3, l4] [.int i1, s2, s1, s0] H r := q_iload_n (mo_160 15 rfl) rfl rfl
theorem r160_16 (hc : hC H b1 = some 8) : Runs xs sl (d + 1) 160 16 [l0, l1, l2, l3, l4] [.int u3, .int u2, .ref b1, .int u0] H r ↔ ∃ v H1, Runs xs sl d 161 0 [some (.ref b1), some (.int u2), some (.int u3)] [] H (v, H1) ∧ Runs xs sl (d + 1) 160 19 [l0, l1, l2, l3, l4] (v.toList ++ [.int u0]) H1 r := q_callV (M' := 161) (as := [.int u2, .int u3]) (rest := [.int u0]) (mo_160 16 rfl) mow_160 rfl mcs_161 mmx_161 rfl (Nat.le_of_ble_eq_true rfl) (Nat.le_of_ble_eq_true rfl) rfl rfl hc
theorem r160_19 : Runs xs sl d 160 19 [l0, l1, l2, l3, l4] [.int u1, .int u0] H r ↔ Runs xs sl d 160 20 [l0, l1, l2, l3, l4] [.int (u0 + u1)] H r := q_iadd (mo_160 19 rfl) rfl
theorem r160_20 : Runs xs sl d 160 20 [l0, some (.int i1), l2, l3, l4] [.int u0] H r ↔ Runs xs sl d 160 21 [l0, some (.int i1), some (.int u0), l3, l4] [] H r := q_istore_n (mo_160 20 rfl) (Nat.le_of_ble_eq_true rfl) rfl rfl
theorem r160_21 : Runs xs sl d 160 21 [l0, l1, some (.int i2), some (.int i3), l4] [] H r ↔ Runs xs sl d 160 24 [l0, l1, some (.int i2), some (.int (i3 + 1)), l4] [] H r := q_iinc (mo_160 21 rfl) rfl (Nat.le_of_ble_eq_true rfl) rfl rfl
theorem r160_24 : Runs xs sl d 160 24 [l0, l1, l2, l3, l4] [] H r ↔ Runs xs sl d 160 4 [l0, l1, l2, l3, l4] [] H r := q_goto (mo_160 24 rfl) rfl
theorem r160_27 : Runs xs sl d 160 27 [l0, l1, l2, l3, l4] [] H r ↔ Runs xs sl d 160 28 [l0, l1, l2, l3, l4] [.int 0] H r := q_iconst (mo_160 27 rfl) rfl rfl
theorem r160_28 : Runs xs sl d 160 28 [l0, l1, some (.int i2), l3, l4] [.int u0] H r ↔ Runs xs sl d 160 29 [l0, l1, some (.int i2), some (.int u0), l4] [] H r := q_istore_n (mo_160 28 rfl) (Nat.le_of_ble_eq_true rfl) rfl rfl
theorem r160_29 : Runs xs sl d 160 29 [l0, l1, l2, l3, l4] [] H r ↔ Runs xs sl d 160 30 [l0, l1, l2, l3, l4] [.int 0] H r := q_iconst (mo_160 29 rfl) rfl rfl
theorem r160_30 : Runs xs sl d 160 30 [l0, l1, l2, some (.int i3), l4] [.int u0] H r ↔ Runs xs sl d 160 32 [l0, l1, l2, some (.int i3), some (.int u0)] [] H r := q_istore (mo_160 30 rfl) (Nat.le_of_ble_eq_true rfl) rfl rfl
theorem r160_32 : Runs xs sl d 160 32 [l0, l1, l2, l3, some (.int i4)] [] H r ↔ Runs xs sl d 160 34 [l0, l1, l2, l3, some (.int i4)] [.int i4] H r := q_iload (mo_160 32 rfl) rfl rfl
theorem r160_34 : Runs xs sl d 160 34 [some (.ref a0), l1, l2, l3, l4] [s0] H r ↔ Runs xs sl d 160 35 [some (.ref a0), l1, l2, l3, l4] [.ref a0, s0] H r := q_aload_n (mo_160 34 rfl) rfl rfl
theorem r160_35 : Runs xs sl d 160 35 [l0, l1, l2, l3, l4] [.ref b1, s0] H r ↔ ∃ v, hO H b1 8 2 = some v ∧ Runs xs sl d 160 38 [l0, l1, l2, l3, l4] [v, s0] H r := q_getf (mo_160 35 rfl) mow_160 rfl rfl
theorem r160_38 : Runs xs sl d 160 38 [l0, l1, l2, l3, l4] [.int u1, .int u0] H r ↔ if u1 ≤ u0 then Runs xs sl d 160 73 [l0, l1, l2, l3, l4] [] H r else Runs xs sl d 160 41 [l0, l1, l2, l3, l4] [] H r := q_icmp_ge (mo_160 38 rfl) rfl rfl
theorem r160_41 : Runs xs sl d 160 41 [l0, l1, some (.int i2), l3, l4] [] H r ↔ Runs xs sl d 160 42 [l0, l1, some (.int i2), l3, l4] [.int i2] H r := q_iload_n (mo_160 41 rfl) rfl rfl
theorem r160_42 : Runs xs sl d 160 42 [some (.ref a0), l1, l2, l3, l4] [s0] H r ↔ Runs xs sl d 160 43 [some (.ref a0), l1, l2, l3, l4] [.ref a0, s0] H r := q_aload_n (mo_160 42 rfl) rfl rfl
theorem r160_43 : Runs xs sl d 160 43 [l0, l1, l2, l3, some (.int i4)] [s1, s0] H r ↔ Runs xs sl d 160 45 [l0, l1, l2, l3, some (.int i4)] [.int i4, s1, s0] H r := q_iload (mo_160 43 rfl) rfl rfl
theorem r160_45 : Runs xs sl d 160 45 [l0, some (.int i1), l2, l3, l4] [s2, s1, s0] H r ↔ Runs xs sl d 160 46 [l0, some (.int i1), l2, l3, l4] [.int i1, s2, s1, s0] H r := q_iload_n (mo_160 45 rfl) rfl rfl
theorem r160_46 (hc : hC H b1 = some 8) : Runs xs sl (d + 1) 160 46 [l0, l1, l2, l3, l4] [.int u3, .int u2, .ref b1, .int u0] H r ↔ ∃ v H1, Runs xs sl d 161 0 [some (.ref b1), some (.int u2), some (.int u3)] [] H (v, H1) ∧ Runs xs sl (d + 1) 160 49 [l0, l1, l2, l3, l4] (v.toList ++ [.int u0]) H1 r := q_callV (M' := 161) (as := [.int u2, .int u3]) (rest := [.int u0]) (mo_160 46 rfl) mow_160 rfl mcs_161 mmx_161 rfl (Nat.le_of_ble_eq_true rfl) (Nat.le_of_ble_eq_true rfl) rfl rfl hc
theorem r160_49 : Runs xs sl d 160 49 [l0, l1, l2, l3, l4] [.int u1, .int u0] H r ↔ Runs xs sl d 160 50 [l0, l1, l2, l3, l4] [.int (u0 - u1)] H r := q_isub (mo_160 49 rfl) rfl
theorem r160_50 : Runs xs sl (d + 1) 160 50 [l0, l1, l2, l3, l4] [.int u0] H r ↔ ∃ v H1, Runs xs sl d 286 0 [some (.int u0)] [] H (v, H1) ∧ Runs xs sl (d + 1) 160 53 [l0, l1, l2, l3, l4] (v.toList ++ []) H1 r := q_callS (M' := 286) (as := [.int u0]) (rest := []) (mo_160 50 rfl) mow_160 rfl mmx_286 rfl (Nat.le_of_ble_eq_true rfl) (Nat.le_of_ble_eq_true rfl) rfl rfl
theorem r160_53 : Runs xs sl d 160 53 [l0, l1, some (.int i2), l3, l4] [s0] H r ↔ Runs xs sl d 160 54 [l0, l1, some (.int i2), l3, l4] [.int i2, s0] H r := q_iload_n (mo_160 53 rfl) rfl rfl
theorem r160_54 : Runs xs sl (d + 1) 160 54 [l0, l1, l2, l3, l4] [.int u1, .int u0] H r ↔ ∃ v H1, Runs xs sl d 286 0 [some (.int u1)] [] H (v, H1) ∧ Runs xs sl (d + 1) 160 57 [l0, l1, l2, l3, l4] (v.toList ++ [.int u0]) H1 r := q_callS (M' := 286) (as := [.int u1]) (rest := [.int u0]) (mo_160 54 rfl) mow_160 rfl mmx_286 rfl (Nat.le_of_ble_eq_true rfl) (Nat.le_of_ble_eq_true rfl) rfl rfl
theorem r160_57 : Runs xs sl d 160 57 [l0, l1, l2, l3, l4] [.int u1, .int u0] H r ↔ if u0 = u1 then Runs xs sl d 160 67 [l0, l1, l2, l3, l4] [] H r else Runs xs sl d 160 60 [l0, l1, l2, l3, l4] [] H r := q_icmp_eq (mo_160 57 rfl) rfl rfl
theorem r160_60 : Runs xs sl d 160 60 [l0, l1, l2, some (.int i3), l4] [] H r ↔ Runs xs sl d 160 61 [l0, l1, l2, some (.int i3), l4] [.int i3] H r := q_iload_n (mo_160 60 rfl) rfl rfl
theorem r160_61 : Runs xs sl d 160 61 [l0, l1, l2, l3, l4] [s0] H r ↔ Runs xs sl d 160 62 [l0, l1, l2, l3, l4] [.int 1, s0] H r := q_iconst (mo_160 61 rfl) rfl rfl
theorem r160_62 : Runs xs sl d 160 62 [l0, l1, l2, l3, some (.int i4)] [s1, s0] H r ↔ Runs xs sl d 160 64 [l0, l1, l2, l3, some (.int i4)] [.int i4, s1, s0] H r := q_iload (mo_160 62 rfl) rfl rfl
theorem r160_64 : Runs xs sl d 160 64 [l0, l1, l2, l3, l4] [.int u2, .int u1, s0] H r ↔ Runs xs sl d 160 65 [l0, l1, l2, l3, l4] [.int (u1 <<< (u2 &&& 31)), s0] H r := q_ishl (mo_160 64 rfl) rfl
theorem r160_65 : Runs xs sl d 160 65 [l0, l1, l2, l3, l4] [.int u1, .int u0] H r ↔ Runs xs sl d 160 66 [l0, l1, l2, l3, l4] [.int (u0 ||| u1)] H r := q_ior (mo_160 65 rfl) rfl
theorem r160_66 : Runs xs sl d 160 66 [l0, l1, some (.int i2), l3, l4] [.int u0] H r ↔ Runs xs sl d 160 67 [l0, l1, some (.int i2), some (.int u0), l4] [] H r := q_istore_n (mo_160 66 rfl) (Nat.le_of_ble_eq_true rfl) rfl rfl
theorem r160_67 : Runs xs sl d 160 67 [l0, l1, l2, some (.int i3), some (.int i4)] [] H r ↔ Runs xs sl d 160 70 [l0, l1, l2, some (.int i3), some (.int (i4 + 1))] [] H r := q_iinc (mo_160 67 rfl) rfl (Nat.le_of_ble_eq_true rfl) rfl rfl
theorem r160_70 : Runs xs sl d 160 70 [l0, l1, l2, l3, l4] [] H r ↔ Runs xs sl d 160 32 [l0, l1, l2, l3, l4] [] H r := q_goto (mo_160 70 rfl) rfl
theorem r160_73 : Runs xs sl d 160 73 [l0, l1, l2, some (.int i3), l4] [] H r ↔ Runs xs sl d 160 74 [l0, l1, l2, some (.int i3), l4] [.int i3] H r := q_iload_n (mo_160 73 rfl) rfl rfl
theorem r160_74 : Runs xs sl d 160 74 [l0, l1, l2, l3, l4] [.int u0] H r ↔ r = (some (.int u0), H) := q_iret (mo_160 74 rfl) mrt_160
theorem r161_0 : Runs xs sl d 161 0 [some (.ref a0), l1, l2] [] H r ↔ Runs xs sl d 161 1 [some (.ref a0), l1, l2] [.ref a0] H r := q_aload_n (mo_161 0 rfl) rfl rfl
theorem r161_1 : Runs xs sl d 161 1 [l0, l1, l2] [.ref b0] H r ↔ ∃ v, hO H b0 8 5 = some v ∧ Runs xs sl d 161 4 [l0, l1, l2] [v] H r := q_getf (mo_161 1 rfl) mow_161 rfl rfl
theorem r161_4 : Runs xs sl d 161 4 [l0, some (.int i1), l2] [s0] H r ↔ Runs xs sl d 161 5 [l0, some (.int i1), l2] [.int i1, s0] H r := q_iload_n (mo_161 4 rfl) rfl rfl
theorem r161_5 : Runs xs sl d 161 5 [l0, l1, l2] [.int u1, .ref b0] H r ↔ ∃ v, hA H b0 0 u1 = some v ∧ Runs xs sl d 161 6 [l0, l1, l2] [.int v] H r := run_iald (mo_161 5 rfl) rfl
theorem r161_6 : Runs xs sl d 161 6 [some (.ref a0), l1, l2] [s0] H r ↔ Runs xs sl d 161 7 [some (.ref a0), l1, l2] [.ref a0, s0] H r := q_aload_n (mo_161 6 rfl) rfl rfl
theorem r161_7 : Runs xs sl d 161 7 [l0, l1, l2] [.ref b1, s0] H r ↔ ∃ v, hO H b1 8 8 = some v ∧ Runs xs sl d 161 10 [l0, l1, l2] [v, s0] H r := q_getf (mo_161 7 rfl) mow_161 rfl rfl
theorem r161_10 : Runs xs sl d 161 10 [l0, some (.int i1), l2] [s1, s0] H r ↔ Runs xs sl d 161 11 [l0, some (.int i1), l2] [.int i1, s1, s0] H r := q_iload_n (mo_161 10 rfl) rfl rfl
theorem r161_11 : Runs xs sl d 161 11 [l0, l1, l2] [s2, s1, s0] H r ↔ Runs xs sl d 161 13 [l0, l1, l2] [.int 6, s2, s1, s0] H r := q_bipush (mo_161 11 rfl) rfl rfl
theorem r161_13 : Runs xs sl d 161 13 [l0, l1, l2] [.int u3, .int u2, s1, s0] H r ↔ Runs xs sl d 161 14 [l0, l1, l2] [.int (u2 * u3), s1, s0] H r := q_imul (mo_161 13 rfl) rfl
theorem r161_14 : Runs xs sl d 161 14 [l0, l1, some (.int i2)] [s2, s1, s0] H r ↔ Runs xs sl d 161 15 [l0, l1, some (.int i2)] [.int i2, s2, s1, s0] H r := q_iload_n (mo_161 14 rfl) rfl rfl
theorem r161_15 : Runs xs sl d 161 15 [l0, l1, l2] [.int u3, .int u2, s1, s0] H r ↔ Runs xs sl d 161 16 [l0, l1, l2] [.int (u2 + u3), s1, s0] H r := q_iadd (mo_161 15 rfl) rfl
theorem r161_16 : Runs xs sl d 161 16 [l0, l1, l2] [.int u2, .ref b1, s0] H r ↔ ∃ v, hA H b1 0 u2 = some v ∧ Runs xs sl d 161 17 [l0, l1, l2] [.int v, s0] H r := run_iald (mo_161 16 rfl) rfl
theorem r161_17 : Runs xs sl (d + 1) 161 17 [l0, l1, l2] [.int u1, .int u0] H r ↔ ∃ v H1, Runs xs sl d 286 0 [some (.int u1)] [] H (v, H1) ∧ Runs xs sl (d + 1) 161 20 [l0, l1, l2] (v.toList ++ [.int u0]) H1 r := q_callS (M' := 286) (as := [.int u1]) (rest := [.int u0]) (mo_161 17 rfl) mow_161 rfl mmx_286 rfl (Nat.le_of_ble_eq_true rfl) (Nat.le_of_ble_eq_true rfl) rfl rfl
theorem r161_20 : Runs xs sl d 161 20 [l0, l1, l2] [.int u1, .int u0] H r ↔ Runs xs sl d 161 21 [l0, l1, l2] [.int (u0 * u1)] H r := q_imul (mo_161 20 rfl) rfl
theorem r161_21 : Runs xs sl d 161 21 [l0, l1, l2] [.int u0] H r ↔ r = (some (.int u0), H) := q_iret (mo_161 21 rfl) mrt_161
theorem r162_0 : Runs xs sl d 162 0 [some (.ref a0), l1, l2, l3, l4, l5, l6] [] H r ↔ Runs xs sl d 162 1 [some (.ref a0), l1, l2, l3, l4, l5, l6] [.ref a0] H r := q_aload_n (mo_162 0 rfl) rfl rfl
theorem r162_0n : Runs xs sl d 162 0 [some .null, l1, l2, l3, l4, l5, l6] [] H r ↔ Runs xs sl d 162 1 [some .null, l1, l2, l3, l4, l5, l6] [.null] H r := q_aload_nN (mo_162 0 rfl) rfl rfl
theorem r162_1 : Runs xs sl d 162 1 [l0, some (.int i1), l2, l3, l4, l5, l6] [s0] H r ↔ Runs xs sl d 162 2 [l0, some (.int i1), l2, l3, l4, l5, l6] [.int i1, s0] H r := q_iload_n (mo_162 1 rfl) rfl rfl
theorem r162_2 : Runs xs sl (d + 1) 162 2 [l0, l1, l2, l3, l4, l5, l6] [.int u1, .ref b0] H r ↔ ∃ v H1, Runs xs sl d 163 0 [some (.ref b0), some (.int u1), none, none] [] H (v, H1) ∧ Runs xs sl (d + 1) 162 5 [l0, l1, l2, l3, l4, l5, l6] (v.toList ++ []) H1 r := q_callS (M' := 163) (as := [.ref b0, .int u1]) (rest := []) (mo_162 2 rfl) mow_162 rfl mmx_163 rfl (Nat.le_of_ble_eq_true rfl) (Nat.le_of_ble_eq_true rfl) rfl rfl
theorem r162_5 : Runs xs sl d 162 5 [l0, some (.int i1), l2, l3, l4, l5, l6] [.int u0] H r ↔ Runs xs sl d 162 6 [l0, some (.int i1), some (.int u0), l3, l4, l5, l6] [] H r := q_istore_n (mo_162 5 rfl) (Nat.le_of_ble_eq_true rfl) rfl rfl
theorem r162_6 : Runs xs sl d 162 6 [l0, l1, some (.int i2), l3, l4, l5, l6] [] H r ↔ Runs xs sl d 162 7 [l0, l1, some (.int i2), l3, l4, l5, l6] [.int i2] H r := q_iload_n (mo_162 6 rfl) rfl rfl
theorem r162_7 : Runs xs sl d 162 7 [l0, l1, some (.int i2), l3, l4, l5, l6] [.int u0] H r ↔ Runs xs sl d 162 8 [l0, l1, some (.int i2), some (.int u0), l4, l5, l6] [] H r := q_istore_n (mo_162 7 rfl) (Nat.le_of_ble_eq_true rfl) rfl rfl
theorem r162_8 : Runs xs sl d 162 8 [some (.ref a0), l1, l2, l3, l4, l5, l6] [] H r ↔ Runs xs sl d 162 9 [some (.ref a0), l1, l2, l3, l4, l5, l6] [.ref a0] H r := q_aload_n (mo_162 8 rfl) rfl rfl
theorem r162_8n : Runs xs sl d 162 8 [some .null, l1, l2, l3, l4, l5, l6] [] H r ↔ Runs xs sl d 162 9 [some .null, l1, l2, l3, l4, l5, l6] [.null] H r := q_aload_nN (mo_162 8 rfl) rfl rfl
theorem r162_9 : Runs xs sl d 162 9 [l0, l1, some (.int i2), l3, l4, l5, l6] [s0] H r ↔ Runs xs sl d 162 10 [l0, l1, some (.int i2), l3, l4, l5, l6] [.int i2, s0] H r := q_iload_n (mo_162 9 rfl) rfl rfl
theorem r162_10 : Runs xs sl d 162 10 [l0, l1, l2, l3, l4, l5, l6] [s1, s0] H r ↔ Runs xs sl d 162 11 [l0, l1, l2, l3, l4, l5, l6] [.int 0, s1, s0] H r := q_iconst (mo_162 10 rfl) rfl rfl
theorem r162_11 : Runs xs sl (d + 1) 162 11 [l0, l1, l2, l3, l4, l5, l6] [.int u2, .int u1, .ref b0] H r ↔ ∃ v H1, Runs xs sl d 165 0 [some (.ref b0), some (.int u1), some (.int u2), none, none, none, none, none] [] H (v, H1) ∧ Runs xs sl (d + 1) 162 14 [l0, l1, l2, l3, l4, l5, l6] (v.toList ++ []) H1 r := q_callS (M' := 165) (as := [.ref b0, .int u1, .int u2]) (rest := []) (mo_162 11 rfl) mow_162 rfl mmx_165 rfl (Nat.le_of_ble_eq_true rfl) (Nat.le_of_ble_eq_true rfl) rfl rfl
theorem r162_14 : Runs xs sl d 162 14 [l0, l1, l2, some (.int i3), l4, l5, l6] [.int u0] H r ↔ Runs xs sl d 162 16 [l0, l1, l2, some (.int i3), some (.int u0), l5, l6] [] H r := q_istore (mo_162 14 rfl) (Nat.le_of_ble_eq_true rfl) rfl rfl
theorem r162_16 : Runs xs sl d 162 16 [l0, l1, l2, l3, l4, l5, l6] [] H r ↔ Runs xs sl d 162 17 [l0, l1, l2, l3, l4, l5, l6] [.int 0] H r := q_iconst (mo_162 16 rfl) rfl rfl
theorem r162_17 : Runs xs sl d 162 17 [l0, l1, l2, l3, some (.int i4), l5, l6] [.int u0] H r ↔ Runs xs sl d 162 19 [l0, l1, l2, l3, some (.int i4), some (.int u0), l6] [] H r := q_istore (mo_162 17 rfl) (Nat.le_of_ble_eq_true rfl) rfl rfl
theorem r162_19 : Runs xs sl d 162 19 [l0, l1, l2, l3, l4, some (.int i5), l6] [] H r ↔ Runs xs sl d 162 21 [l0, l1, l2, l3, l4, some (.int i5), l6] [.int i5] H r := q_iload (mo_162 19 rfl) rfl rfl
theorem r162_21 : Runs xs sl d 162 21 [l0, l1, l2, l3, some (.int i4), l5, l6] [s0] H r ↔ Runs xs sl d 162 23 [l0, l1, l2, l3, some (.int i4), l5, l6] [.int i4, s0] H r := q_iload (mo_162 21 rfl) rfl rfl
theorem r162_23 : Runs xs sl d 162 23 [l0, l1, l2, l3, l4, l5, l6] [.int u1, .int u0] H r ↔ if u1 ≤ u0 then Runs xs sl d 162 39 [l0, l1, l2, l3, l4, l5, l6] [] H r else Runs xs sl d 162 26 [l0, l1, l2, l3, l4, l5, l6] [] H r := q_icmp_ge (mo_162 23 rfl) rfl rfl
theorem r162_26 : Runs xs sl d 162 26 [some (.ref a0), l1, l2, l3, l4, l5, l6] [] H r ↔ Runs xs sl d 162 27 [some (.ref a0), l1, l2, l3, l4, l5, l6] [.ref a0] H r := q_aload_n (mo_162 26 rfl) rfl rfl
theorem r162_26n : Runs xs sl d 162 26 [some .null, l1, l2, l3, l4, l5, l6] [] H r ↔ Runs xs sl d 162 27 [some .null, l1, l2, l3, l4, l5, l6] [.null] H r := q_aload_nN (mo_162 26 rfl) rfl rfl
theorem r162_27 : Runs xs sl d 162 27 [l0, l1, l2, some (.int i3), l4, l5, l6] [s0] H r ↔ Runs xs sl d 162 28 [l0, l1, l2, some (.int i3), l4, l5, l6] [.int i3, s0] H r := q_iload_n (mo_162 27 rfl) rfl rfl
theorem r162_28 : Runs xs sl d 162 28 [l0, l1, l2, l3, l4, l5, l6] [s1, s0] H r ↔ Runs xs sl d 162 29 [l0, l1, l2, l3, l4, l5, l6] [.int 0, s1, s0] H r := q_iconst (mo_162 28 rfl) rfl rfl
theorem r162_29 : Runs xs sl (d + 1) 162 29 [l0, l1, l2, l3, l4, l5, l6] [.int u2, .int u1, .ref b0] H r ↔ ∃ v H1, Runs xs sl d 166 0 [some (.ref b0), some (.int u1), some (.int u2), none, none, none, none] [] H (v, H1) ∧ Runs xs sl (d + 1) 162 32 [l0, l1, l2, l3, l4, l5, l6] (v.toList ++ []) H1 r := q_callS (M' := 166) (as := [.ref b0, .int u1, .int u2]) (rest := []) (mo_162 29 rfl) mow_162 rfl mmx_166 rfl (Nat.le_of_ble_eq_true rfl) (Nat.le_of_ble_eq_true rfl) rfl rfl
theorem r162_32 : Runs xs sl d 162 32 [l0, l1, some (.int i2), l3, l4, l5, l6] [.int u0] H r ↔ Runs xs sl d 162 33 [l0, l1, some (.int i2), some (.int u0), l4, l5, l6] [] H r := q_istore_n (mo_162 32 rfl) (Nat.le_of_ble_eq_true rfl) rfl rfl
theorem r162_33 : Runs xs sl d 162 33 [l0, l1, l2, l3, some (.int i4), some (.int i5), l6] [] H r ↔ Runs xs sl d 162 36 [l0, l1, l2, l3, some (.int i4), some (.int (i5 + 1)), l6] [] H r := q_iinc (mo_162 33 rfl) rfl (Nat.le_of_ble_eq_true rfl) rfl rfl
theorem r162_36 : Runs xs sl d 162 36 [l0, l1, l2, l3, l4, l5, l6] [] H r ↔ Runs xs sl d 162 19 [l0, l1, l2, l3, l4, l5, l6] [] H r := q_goto (mo_162 36 rfl) rfl
theorem r162_39 : Runs xs sl d 162 39 [l0, l1, l2, l3, l4, l5, l6] [] H r ↔ Runs xs sl d 162 40 [l0, l1, l2, l3, l4, l5, l6] [.int 0] H r := q_iconst (mo_162 39 rfl) rfl rfl
theorem r162_40 : Runs xs sl d 162 40 [l0, l1, l2, l3, some (.int i4), l5, l6] [.int u0] H r ↔ Runs xs sl d 162 42 [l0, l1, l2, l3, some (.int i4), some (.int u0), l6] [] H r := q_istore (mo_162 40 rfl) (Nat.le_of_ble_eq_true rfl) rfl rfl
theorem r162_42 : Runs xs sl d 162 42 [l0, l1, l2, l3, l4, l5, l6] [] H r ↔ Runs xs sl d 162 43 [l0, l1, l2, l3, l4, l5, l6] [.int 0] H r := q_iconst (mo_162 42 rfl) rfl rfl
theorem r162_43 : Runs xs sl d 162 43 [l0, l1, l2, l3, l4, some (.int i5), l6] [.int u0] H r ↔ Runs xs sl d 162 45 [l0, l1, l2, l3, l4, some (.int i5), some (.int u0)] [] H r := q_istore (mo_162 43 rfl) (Nat.le_of_ble_eq_true rfl) rfl rfl
theorem r162_45 : Runs xs sl d 162 45 [l0, l1, l2, l3, l4, l5, some (.int i6)] [] H r ↔ Runs xs sl d 162 47 [l0, l1, l2, l3, l4, l5, some (.int i6)] [.int i6] H r := q_iload (mo_162 45 rfl) rfl rfl
theorem r162_47 : Runs xs sl d 162 47 [l0, l1, l2, l3, l4, l5, l6] [s0] H r ↔ Runs xs sl d 162 49 [l0, l1, l2, l3, l4, l5, l6] [.int 40000, s0] H r := q_ldc (mo_162 47 rfl) mow_162 rfl rfl
theorem r162_49 : Runs xs sl d 162 49 [l0, l1, l2, l3, l4, l5, l6] [.int u1, .int u0] H r ↔ if u1 ≤ u0 then Runs xs sl d 162 80 [l0, l1, l2, l3, l4, l5, l6] [] H r else Runs xs sl d 162 52 [l0, l1, l2, l3, l4, l5, l6] [] H r := q_icmp_ge (mo_162 49 rfl) rfl rfl
theorem r162_52 : Runs xs sl d 162 52 [l0, l1, some (.int i2), l3, l4, l5, l6] [] H r ↔ Runs xs sl d 162 53 [l0, l1, some (.int i2), l3, l4, l5, l6] [.int i2] H r := q_iload_n (mo_162 52 rfl) rfl rfl
theorem r162_53 : Runs xs sl d 162 53 [l0, l1, l2, some (.int i3), l4, l5, l6] [s0] H r ↔ Runs xs sl d 162 54 [l0, l1, l2, some (.int i3), l4, l5, l6] [.int i3, s0] H r := q_iload_n (mo_162 53 rfl) rfl rfl
theorem r162_54 : Runs xs sl d 162 54 [l0, l1, l2, l3, l4, l5, l6] [.int u1, .int u0] H r ↔ if u0 = u1 then Runs xs sl d 162 80 [l0, l1, l2, l3, l4, l5, l6] [] H r else Runs xs sl d 162 57 [l0, l1, l2, l3, l4, l5, l6] [] H r := q_icmp_eq (mo_162 54 rfl) rfl rfl
theorem r162_57 : Runs xs sl d 162 57 [some (.ref a0), l1, l2, l3, l4, l5, l6] [] H r ↔ Runs xs sl d 162 58 [some (.ref a0), l1, l2, l3, l4, l5, l6] [.ref a0] H r := q_aload_n (mo_162 57 rfl) rfl rfl
theorem r162_57n : Runs xs sl d 162 57 [some .null, l1, l2, l3, l4, l5, l6] [] H r ↔ Runs xs sl d 162 58 [some .null, l1, l2, l3, l4, l5, l6] [.null] H r := q_aload_nN (mo_162 57 rfl) rfl rfl
theorem r162_58 : Runs xs sl d 162 58 [l0, l1, some (.int i2), l3, l4, l5, l6] [s0] H r ↔ Runs xs sl d 162 59 [l0, l1, some (.int i2), l3, l4, l5, l6] [.int i2, s0] H r := q_iload_n (mo_162 58 rfl) rfl rfl
theorem r162_59 : Runs xs sl d 162 59 [l0, l1, l2, l3, l4, l5, l6] [s1, s0] H r ↔ Runs xs sl d 162 60 [l0, l1, l2, l3, l4, l5, l6] [.int 0, s1, s0] H r := q_iconst (mo_162 59 rfl) rfl rfl
theorem r162_60 : Runs xs sl (d + 1) 162 60 [l0, l1, l2, l3, l4, l5, l6] [.int u2, .int u1, .ref b0] H r ↔ ∃ v H1, Runs xs sl d 166 0 [some (.ref b0), some (.int u1), some (.int u2), none, none, none, none] [] H (v, H1) ∧ Runs xs sl (d + 1) 162 63 [l0, l1, l2, l3, l4, l5, l6] (v.toList ++ []) H1 r := q_callS (M' := 166) (as := [.ref b0, .int u1, .int u2]) (rest := []) (mo_162 60 rfl) mow_162 rfl mmx_166 rfl (Nat.le_of_ble_eq_true rfl) (Nat.le_of_ble_eq_true rfl) rfl rfl
theorem r162_63 : Runs xs sl d 162 63 [l0, some (.int i1), l2, l3, l4, l5, l6] [.int u0] H r ↔ Runs xs sl d 162 64 [l0, some (.int i1), some (.int u0), l3, l4, l5, l6] [] H r := q_istore_n (mo_162 63 rfl) (Nat.le_of_ble_eq_true rfl) rfl rfl
theorem r162_64 : Runs xs sl d 162 64 [some (.ref a0), l1, l2, l3, l4, l5, l6] [] H r ↔ Runs xs sl d 162 65 [some (.ref a0), l1, l2, l3, l4, l5, l6] [.ref a0] H r := q_aload_n (mo_162 64 rfl) rfl rfl
theorem r162_64n : Runs xs sl d 162 64 [some .null, l1, l2, l3, l4, l5, l6] [] H r ↔ Runs xs sl d 162 65 [some .null, l1, l2, l3, l4, l5, l6] [.null] H r := q_aload_nN (mo_162 64 rfl) rfl rfl
theorem r162_65 : Runs xs sl d 162 65 [l0, l1, l2, some (.int i3), l4, l5, l6] [s0] H r ↔ Runs xs sl d 162 66 [l0, l1, l2, some (.int i3), l4, l5, l6] [.int i3, s0] H r := q_iload_n (mo_162 65 rfl) rfl rfl
theorem r162_66 : Runs xs sl d 162 66 [l0, l1, l2, l3, l4, l5, l6] [s1, s0] H r ↔ Runs xs sl d 162 67 [l0, l1, l2, l3, l4, l5, l6] [.int 0, s1, s0] H r := q_iconst (mo_162 66 rfl) rfl rfl
theorem r162_67 : Runs xs sl (d + 1) 162 67 [l0, l1, l2, l3, l4, l5, l6] [.int u2, .int u1, .ref b0] H r ↔ ∃ v H1, Runs xs sl d 166 0 [some (.ref b0), some (.int u1), some (.int u2), none, none, none, none] [] H (v, H1) ∧ Runs xs sl (d + 1) 162 70 [l0, l1, l2, l3, l4, l5, l6] (v.toList ++ []) H1 r := q_callS (M' := 166) (as := [.ref b0, .int u1, .int u2]) (rest := []) (mo_162 67 rfl) mow_162 rfl mmx_166 rfl (Nat.le_of_ble_eq_true rfl) (Nat.le_of_ble_eq_true rfl) rfl rfl
theorem r162_70 : Runs xs sl d 162 70 [l0, l1, some (.int i2), l3, l4, l5, l6] [.int u0] H r ↔ Runs xs sl d 162 71 [l0, l1, some (.int i2), some (.int u0), l4, l5, l6] [] H r := q_istore_n (mo_162 70 rfl) (Nat.le_of_ble_eq_true rfl) rfl rfl
theorem r162_71 : Runs xs sl d 162 71 [l0, l1, l2, l3, some (.int i4), some (.int i5), l6] [] H r ↔ Runs xs sl d 162 74 [l0, l1, l2, l3, some (.int i4), some (.int (i5 + 1)), l6] [] H r := q_iinc (mo_162 71 rfl) rfl (Nat.le_of_ble_eq_true rfl) rfl rfl
theorem r162_74 : Runs xs sl d 162 74 [l0, l1, l2, l3, l4, some (.int i5), some (.int i6)] [] H r ↔ Runs xs sl d 162 77 [l0, l1, l2, l3, l4, some (.int i5), some (.int (i6 + 1))] [] H r := q_iinc (mo_162 74 rfl) rfl (Nat.le_of_ble_eq_true rfl) rfl rfl
theorem r162_77 : Runs xs sl d 162 77 [l0, l1, l2, l3, l4, l5, l6] [] H r ↔ Runs xs sl d 162 45 [l0, l1, l2, l3, l4, l5, l6] [] H r := q_goto (mo_162 77 rfl) rfl
theorem r162_80 : Runs xs sl d 162 80 [l0, l1, l2, l3, l4, some (.int i5), l6] [] H r ↔ Runs xs sl d 162 82 [l0, l1, l2, l3, l4, some (.int i5), l6] [.int i5] H r := q_iload (mo_162 80 rfl) rfl rfl
theorem r162_82 : Runs xs sl d 162 82 [l0, l1, l2, l3, l4, l5, l6] [.int u0] H r ↔ r = (some (.int u0), H) := q_iret (mo_162 82 rfl) mrt_162
theorem r163_0 : Runs xs sl d 163 0 [l0, l1, l2, l3] [] H r ↔ Runs xs sl d 163 1 [l0, l1, l2, l3] [.int 0] H r := q_iconst (mo_163 0 rfl) rfl rfl
theorem r163_1 : Runs xs sl d 163 1 [l0, some (.int i1), l2, l3] [.int u0] H r ↔ Runs xs sl d 163 2 [l0, some (.int i1), some (.int u0), l3] [] H r := q_istore_n (mo_163 1 rfl) (Nat.le_of_ble_eq_true rfl) rfl rfl
theorem r163_2 : Runs xs sl d 163 2 [l0, l1, l2, l3] [] H r ↔ Runs xs sl d 163 3 [l0, l1, l2, l3] [.int 0] H r := q_iconst (mo_163 2 rfl) rfl rfl
theorem r163_3 : Runs xs sl d 163 3 [l0, l1, some (.int i2), l3] [.int u0] H r ↔ Runs xs sl d 163 4 [l0, l1, some (.int i2), some (.int u0)] [] H r := q_istore_n (mo_163 3 rfl) (Nat.le_of_ble_eq_true rfl) rfl rfl
theorem r163_4 : Runs xs sl d 163 4 [l0, l1, l2, some (.int i3)] [] H r ↔ Runs xs sl d 163 5 [l0, l1, l2, some (.int i3)] [.int i3] H r := q_iload_n (mo_163 4 rfl) rfl rfl
theorem r163_5 : Runs xs sl d 163 5 [some (.ref a0), l1, l2, l3] [s0] H r ↔ Runs xs sl d 163 6 [some (.ref a0), l1, l2, l3] [.ref a0, s0] H r := q_aload_n (mo_163 5 rfl) rfl rfl
theorem r163_5n : Runs xs sl d 163 5 [some .null, l1, l2, l3] [s0] H r ↔ Runs xs sl d 163 6 [some .null, l1, l2, l3] [.null, s0] H r := q_aload_nN (mo_163 5 rfl) rfl rfl
theorem r163_6 : Runs xs sl d 163 6 [l0, l1, l2, l3] [.ref b1, s0] H r ↔ ∃ v, hO H b1 8 2 = some v ∧ Runs xs sl d 163 9 [l0, l1, l2, l3] [v, s0] H r := q_getf (mo_163 6 rfl) mow_163 rfl rfl
theorem r163_9 : Runs xs sl d 163 9 [l0, l1, l2, l3] [.int u1, .int u0] H r ↔ if u1 ≤ u0 then Runs xs sl d 163 36 [l0, l1, l2, l3] [] H r else Runs xs sl d 163 12 [l0, l1, l2, l3] [] H r := q_icmp_ge (mo_163 9 rfl) rfl rfl
theorem r163_12 : Runs xs sl d 163 12 [l0, l1, some (.int i2), l3] [] H r ↔ Runs xs sl d 163 13 [l0, l1, some (.int i2), l3] [.int i2] H r := q_iload_n (mo_163 12 rfl) rfl rfl
theorem r163_13 : Runs xs sl d 163 13 [some (.ref a0), l1, l2, l3] [s0] H r ↔ Runs xs sl d 163 14 [some (.ref a0), l1, l2, l3] [.ref a0, s0] H r := q_aload_n (mo_163 13 rfl) rfl rfl
theorem r163_13n : Runs xs sl d 163 13 [some .null, l1, l2, l3] [s0] H r ↔ Runs xs sl d 163 14 [some .null, l1, l2, l3] [.null, s0] H r := q_aload_nN (mo_163 13 rfl) rfl rfl
theorem r163_14 : Runs xs sl d 163 14 [l0, l1, l2, l3] [.ref b1, s0] H r ↔ ∃ v, hO H b1 8 8 = some v ∧ Runs xs sl d 163 17 [l0, l1, l2, l3] [v, s0] H r := q_getf (mo_163 14 rfl) mow_163 rfl rfl
theorem r163_17 : Runs xs sl d 163 17 [l0, l1, l2, some (.int i3)] [s1, s0] H r ↔ Runs xs sl d 163 18 [l0, l1, l2, some (.int i3)] [.int i3, s1, s0] H r := q_iload_n (mo_163 17 rfl) rfl rfl
theorem r163_18 : Runs xs sl d 163 18 [l0, l1, l2, l3] [s2, s1, s0] H r ↔ Runs xs sl d 163 20 [l0, l1, l2, l3] [.int 6, s2, s1, s0] H r := q_bipush (mo_163 18 rfl) rfl rfl
theorem r163_20 : Runs xs sl d 163 20 [l0, l1, l2, l3] [.int u3, .int u2, s1, s0] H r ↔ Runs xs sl d 163 21 [l0, l1, l2, l3] [.int (u2 * u3), s1, s0] H r := q_imul (mo_163 20 rfl) rfl
theorem r163_21 : Runs xs sl d 163 21 [l0, some (.int i1), l2, l3] [s2, s1, s0] H r ↔ Runs xs sl d 163 22 [l0, some (.int i1), l2, l3] [.int i1, s2, s1, s0] H r := q_iload_n (mo_163 21 rfl) rfl rfl
theorem r163_22 : Runs xs sl d 163 22 [l0, l1, l2, l3] [.int u3, .int u2, s1, s0] H r ↔ Runs xs sl d 163 23 [l0, l1, l2, l3] [.int (u2 + u3), s1, s0] H r := q_iadd (mo_163 22 rfl) rfl
theorem r163_23 : Runs xs sl d 163 23 [l0, l1, l2, l3] [.int u2, .ref b1, s0] H r ↔ ∃ v, hA H b1 0 u2 = some v ∧ Runs xs sl d 163 24 [l0, l1, l2, l3] [.int v, s0] H r := run_iald (mo_163 23 rfl) rfl
theorem r163_24 : Runs xs sl d 163 24 [l0, l1, l2, some (.int i3)] [s1, s0] H r ↔ Runs xs sl d 163 25 [l0, l1, l2, some (.int i3)] [.int i3, s1, s0] H r := q_iload_n (mo_163 24 rfl) rfl rfl
theorem r163_25 : Runs xs sl (d + 1) 163 25 [l0, l1, l2, l3] [.int u2, .int u1, .int u0] H r ↔ ∃ v H1, Runs xs sl d 164 0 [some (.int u1), some (.int u2)] [] H (v, H1) ∧ Runs xs sl (d + 1) 163 28 [l0, l1, l2, l3] (v.toList ++ [.int u0]) H1 r := q_callS (M' := 164) (as := [.int u1, .int u2]) (rest := [.int u0]) (mo_163 25 rfl) mow_163 rfl mmx_164 rfl (Nat.le_of_ble_eq_true rfl) (Nat.le_of_ble_eq_true rfl) rfl rfl
theorem r163_28 : Runs xs sl d 163 28 [l0, l1, l2, l3] [.int u1, .int u0] H r ↔ Runs xs sl d 163 29 [l0, l1, l2, l3] [.int (u0 ||| u1)] H r := q_ior (mo_163 28 rfl) rfl
theorem r163_29 : Runs xs sl d 163 29 [l0, some (.int i1), l2, l3] [.int u0] H r ↔ Runs xs sl d 163 30 [l0, some (.int i1), some (.int u0), l3] [] H r := q_istore_n (mo_163 29 rfl) (Nat.le_of_ble_eq_true rfl) rfl rfl
theorem r163_30 : Runs xs sl d 163 30 [l0, l1, some (.int i2), some (.int i3)] [] H r ↔ Runs xs sl d 163 33 [l0, l1, some (.int i2), some (.int (i3 + 1))] [] H r := q_iinc (mo_163 30 rfl) rfl (Nat.le_of_ble_eq_true rfl) rfl rfl
theorem r163_33 : Runs xs sl d 163 33 [l0, l1, l2, l3] [] H r ↔ Runs xs sl d 163 4 [l0, l1, l2, l3] [] H r := q_goto (mo_163 33 rfl) rfl
theorem r163_36 : Runs xs sl d 163 36 [l0, l1, some (.int i2), l3] [] H r ↔ Runs xs sl d 163 37 [l0, l1, some (.int i2), l3] [.int i2] H r := q_iload_n (mo_163 36 rfl) rfl rfl
theorem r163_37 : Runs xs sl d 163 37 [l0, l1, l2, l3] [.int u0] H r ↔ r = (some (.int u0), H) := q_iret (mo_163 37 rfl) mrt_163
theorem r164_0 : Runs xs sl d 164 0 [some (.int i0), l1] [] H r ↔ Runs xs sl d 164 1 [some (.int i0), l1] [.int i0] H r := q_iload_n (mo_164 0 rfl) rfl rfl
theorem r164_1 : Runs xs sl d 164 1 [l0, l1] [.int u0] H r ↔ if ¬ u0 = 0 then Runs xs sl d 164 6 [l0, l1] [] H r else Runs xs sl d 164 4 [l0, l1] [] H r := q_if_ne (mo_164 1 rfl) rfl rfl
theorem r164_4 : Runs xs sl d 164 4 [l0, l1] [] H r ↔ Runs xs sl d 164 5 [l0, l1] [.int 0] H r := q_iconst (mo_164 4 rfl) rfl rfl
theorem r164_5 : Runs xs sl d 164 5 [l0, l1] [.int u0] H r ↔ r = (some (.int u0), H) := q_iret (mo_164 5 rfl) mrt_164
theorem r164_6 : Runs xs sl d 164 6 [some (.int i0), l1] [] H r ↔ Runs xs sl d 164 7 [some (.int i0), l1] [.int i0] H r := q_iload_n (mo_164 6 rfl) rfl rfl
theorem r164_7 : Runs xs sl d 164 7 [l0, l1] [.int u0] H r ↔ if u0 ≤ 0 then Runs xs sl d 164 16 [l0, l1] [] H r else Runs xs sl d 164 10 [l0, l1] [] H r := q_if_le (mo_164 7 rfl) rfl rfl
theorem r164_10 : Runs xs sl d 164 10 [l0, l1] [] H r ↔ Runs xs sl d 164 11 [l0, l1] [.int 1] H r := q_iconst (mo_164 10 rfl) rfl rfl
theorem r164_11 : Runs xs sl d 164 11 [l0, some (.int i1)] [s0] H r ↔ Runs xs sl d 164 12 [l0, some (.int i1)] [.int i1, s0] H r := q_iload_n (mo_164 11 rfl) rfl rfl
theorem r164_12 : Runs xs sl d 164 12 [l0, l1] [.int u1, .int u0] H r ↔ Runs xs sl d 164 13 [l0, l1] [.int (u0 <<< (u1 &&& 31))] H r := q_ishl (mo_164 12 rfl) rfl
theorem r164_13 : Runs xs sl d 164 13 [l0, l1] [s0] H r ↔ Runs xs sl d 164 22 [l0, l1] [s0] H r := q_goto (mo_164 13 rfl) rfl
theorem r164_16 : Runs xs sl d 164 16 [l0, l1] [] H r ↔ Runs xs sl d 164 17 [l0, l1] [.int 1] H r := q_iconst (mo_164 16 rfl) rfl rfl
theorem r164_17 : Runs xs sl d 164 17 [l0, some (.int i1)] [s0] H r ↔ Runs xs sl d 164 18 [l0, some (.int i1)] [.int i1, s0] H r := q_iload_n (mo_164 17 rfl) rfl rfl
theorem r164_18 : Runs xs sl d 164 18 [l0, l1] [s1, s0] H r ↔ Runs xs sl d 164 20 [l0, l1] [.int 8, s1, s0] H r := q_bipush (mo_164 18 rfl) rfl rfl
theorem r164_20 : Runs xs sl d 164 20 [l0, l1] [.int u2, .int u1, s0] H r ↔ Runs xs sl d 164 21 [l0, l1] [.int (u1 + u2), s0] H r := q_iadd (mo_164 20 rfl) rfl
theorem r164_21 : Runs xs sl d 164 21 [l0, l1] [.int u1, .int u0] H r ↔ Runs xs sl d 164 22 [l0, l1] [.int (u0 <<< (u1 &&& 31))] H r := q_ishl (mo_164 21 rfl) rfl
theorem r164_22 : Runs xs sl d 164 22 [l0, l1] [.int u0] H r ↔ r = (some (.int u0), H) := q_iret (mo_164 22 rfl) mrt_164
theorem r165_0 : Runs xs sl d 165 0 [l0, some (.int i1), l2, l3, l4, l5, l6, l7] [] H r ↔ Runs xs sl d 165 1 [l0, some (.int i1), l2, l3, l4, l5, l6, l7] [.int i1] H r := q_iload_n (mo_165 0 rfl) rfl rfl
theorem r165_1 : Runs xs sl d 165 1 [l0, l1, some (.int i2), l3, l4, l5, l6, l7] [.int u0] H r ↔ Runs xs sl d 165 2 [l0, l1, some (.int i2), some (.int u0), l4, l5, l6, l7] [] H r := q_istore_n (mo_165 1 rfl) (Nat.le_of_ble_eq_true rfl) rfl rfl
theorem r165_2 : Runs xs sl d 165 2 [some (.ref a0), l1, l2, l3, l4, l5, l6, l7] [] H r ↔ Runs xs sl d 165 3 [some (.ref a0), l1, l2, l3, l4, l5, l6, l7] [.ref a0] H r := q_aload_n (mo_165 2 rfl) rfl rfl
theorem r165_2n : Runs xs sl d 165 2 [some .null, l1, l2, l3, l4, l5, l6, l7] [] H r ↔ Runs xs sl d 165 3 [some .null, l1, l2, l3, l4, l5, l6, l7] [.null] H r := q_aload_nN (mo_165 2 rfl) rfl rfl
theorem r165_3 : Runs xs sl d 165 3 [l0, some (.int i1), l2, l3, l4, l5, l6, l7] [s0] H r ↔ Runs xs sl d 165 4 [l0, some (.int i1), l2, l3, l4, l5, l6, l7] [.int i1, s0] H r := q_iload_n (mo_165 3 rfl) rfl rfl
theorem r165_4 : Runs xs sl d 165 4 [l0, l1, some (.int i2), l3, l4, l5, l6, l7] [s1, s0] H r ↔ Runs xs sl d 165 5 [l0, l1, some (.int i2), l3, l4, l5, l6, l7] [.int i2, s1, s0] H r := q_iload_n (mo_165 4 rfl) rfl rfl
theorem r165_5 : Runs xs sl (d + 1) 165 5 [l0, l1, l2, l3, l4, l5, l6, l7] [.int u2, .int u1, .ref b0] H r ↔ ∃ v H1, Runs xs sl d 166 0 [some (.ref b0), some (.int u1), some (.int u2), none, none, none, none] [] H (v, H1) ∧ Runs xs sl (d + 1) 165 8 [l0, l1, l2, l3, l4, l5, l6, l7] (v.toList ++ []) H1 r := q_callS (M' := 166) (as := [.ref b0, .int u1, .int u2]) (rest := []) (mo_165 5 rfl) mow_165 rfl mmx_166 rfl (Nat.le_of_ble_eq_true rfl) (Nat.le_of_ble_eq_true rfl) rfl rfl
theorem r165_8 : Runs xs sl d 165 8 [l0, l1, l2, some (.int i3), l4, l5, l6, l7] [.int u0] H r ↔ Runs xs sl d 165 10 [l0, l1, l2, some (.int i3), some (.int u0), l5, l6, l7] [] H r := q_istore (mo_165 8 rfl) (Nat.le_of_ble_eq_true rfl) rfl rfl
theorem r165_10 : Runs xs sl d 165 10 [l0, l1, l2, l3, l4, l5, l6, l7] [] H r ↔ Runs xs sl d 165 11 [l0, l1, l2, l3, l4, l5, l6, l7] [.int 1] H r := q_iconst (mo_165 10 rfl) rfl rfl
theorem r165_11 : Runs xs sl d 165 11 [l0, l1, l2, l3, some (.int i4), l5, l6, l7] [.int u0] H r ↔ Runs xs sl d 165 13 [l0, l1, l2, l3, some (.int i4), some (.int u0), l6, l7] [] H r := q_istore (mo_165 11 rfl) (Nat.le_of_ble_eq_true rfl) rfl rfl
theorem r165_13 : Runs xs sl d 165 13 [l0, l1, l2, l3, l4, l5, l6, l7] [] H r ↔ Runs xs sl d 165 14 [l0, l1, l2, l3, l4, l5, l6, l7] [.int 1] H r := q_iconst (mo_165 13 rfl) rfl rfl
theorem r165_14 : Runs xs sl d 165 14 [l0, l1, l2, l3, l4, some (.int i5), l6, l7] [.int u0] H r ↔ Runs xs sl d 165 16 [l0, l1, l2, l3, l4, some (.int i5), some (.int u0), l7] [] H r := q_istore (mo_165 14 rfl) (Nat.le_of_ble_eq_true rfl) rfl rfl
theorem r165_16 : Runs xs sl d 165 16 [l0, l1, l2, l3, l4, l5, l6, l7] [] H r ↔ Runs xs sl d 165 17 [l0, l1, l2, l3, l4, l5, l6, l7] [.int 0] H r := q_iconst (mo_165 16 rfl) rfl rfl
theorem r165_17 : Runs xs sl d 165 17 [l0, l1, l2, l3, l4, l5, some (.int i6), l7] [.int u0] H r ↔ Runs xs sl d 165 19 [l0, l1, l2, l3, l4, l5, some (.int i6), some (.int u0)] [] H r := q_istore (mo_165 17 rfl) (Nat.le_of_ble_eq_true rfl) rfl rfl
theorem r165_19 : Runs xs sl d 165 19 [l0, l1, l2, l3, l4, l5, l6, some (.int i7)] [] H r ↔ Runs xs sl d 165 21 [l0, l1, l2, l3, l4, l5, l6, some (.int i7)] [.int i7] H r := q_iload (mo_165 19 rfl) rfl rfl
theorem r165_21 : Runs xs sl d 165 21 [l0, l1, l2, l3, l4, l5, l6, l7] [s0] H r ↔ Runs xs sl d 165 23 [l0, l1, l2, l3, l4, l5, l6, l7] [.int 40000, s0] H r := q_ldc (mo_165 21 rfl) mow_165 rfl rfl
theorem r165_23 : Runs xs sl d 165 23 [l0, l1, l2, l3, l4, l5, l6, l7] [.int u1, .int u0] H r ↔ if u1 ≤ u0 then Runs xs sl d 165 69 [l0, l1, l2, l3, l4, l5, l6, l7] [] H r else Runs xs sl d 165 26 [l0, l1, l2, l3, l4, l5, l6, l7] [] H r := q_icmp_ge (mo_165 23 rfl) rfl rfl
theorem r165_26 : Runs xs sl d 165 26 [l0, l1, l2, l3, some (.int i4), l5, l6, l7] [] H r ↔ Runs xs sl d 165 28 [l0, l1, l2, l3, some (.int i4), l5, l6, l7] [.int i4] H r := q_iload (mo_165 26 rfl) rfl rfl
theorem r165_28 : Runs xs sl d 165 28 [l0, l1, l2, some (.int i3), l4, l5, l6, l7] [s0] H r ↔ Runs xs sl d 165 29 [l0, l1, l2, some (.int i3), l4, l5, l6, l7] [.int i3, s0] H r := q_iload_n (mo_165 28 rfl) rfl rfl
theorem r165_29 : Runs xs sl d 165 29 [l0, l1, l2, l3, l4, l5, l6, l7] [.int u1, .int u0] H r ↔ if u0 = u1 then Runs xs sl d 165 69 [l0, l1, l2, l3, l4, l5, l6, l7] [] H r else Runs xs sl d 165 32 [l0, l1, l2, l3, l4, l5, l6, l7] [] H r := q_icmp_eq (mo_165 29 rfl) rfl rfl
theorem r165_32 : Runs xs sl d 165 32 [l0, l1, l2, l3, l4, l5, some (.int i6), l7] [] H r ↔ Runs xs sl d 165 34 [l0, l1, l2, l3, l4, l5, some (.int i6), l7] [.int i6] H r := q_iload (mo_165 32 rfl) rfl rfl
theorem r165_34 : Runs xs sl d 165 34 [l0, l1, l2, l3, l4, some (.int i5), l6, l7] [s0] H r ↔ Runs xs sl d 165 36 [l0, l1, l2, l3, l4, some (.int i5), l6, l7] [.int i5, s0] H r := q_iload (mo_165 34 rfl) rfl rfl
theorem r165_36 : Runs xs sl d 165 36 [l0, l1, l2, l3, l4, l5, l6, l7] [.int u1, .int u0] H r ↔ if ¬ u0 = u1 then Runs xs sl d 165 51 [l0, l1, l2, l3, l4, l5, l6, l7] [] H r else Runs xs sl d 165 39 [l0, l1, l2, l3, l4, l5, l6, l7] [] H r := q_icmp_ne (mo_165 36 rfl) rfl rfl
theorem r165_39 : Runs xs sl d 165 39 [l0, l1, l2, l3, some (.int i4), l5, l6, l7] [] H r ↔ Runs xs sl d 165 41 [l0, l1, l2, l3, some (.int i4), l5, l6, l7] [.int i4] H r := q_iload (mo_165 39 rfl) rfl rfl
theorem r165_41 : Runs xs sl d 165 41 [l0, l1, some (.int i2), l3, l4, l5, l6, l7] [.int u0] H r ↔ Runs xs sl d 165 42 [l0, l1, some (.int i2), some (.int u0), l4, l5, l6, l7] [] H r := q_istore_n (mo_165 41 rfl) (Nat.le_of_ble_eq_true rfl) rfl rfl
theorem r165_42 : Runs xs sl d 165 42 [l0, l1, l2, l3, l4, some (.int i5), l6, l7] [] H r ↔ Runs xs sl d 165 44 [l0, l1, l2, l3, l4, some (.int i5), l6, l7] [.int i5] H r := q_iload (mo_165 42 rfl) rfl rfl
theorem r165_44 : Runs xs sl d 165 44 [l0, l1, l2, l3, l4, l5, l6, l7] [s0] H r ↔ Runs xs sl d 165 45 [l0, l1, l2, l3, l4, l5, l6, l7] [.int 2, s0] H r := q_iconst (mo_165 44 rfl) rfl rfl
theorem r165_45 : Runs xs sl d 165 45 [l0, l1, l2, l3, l4, l5, l6, l7] [.int u1, .int u0] H r ↔ Runs xs sl d 165 46 [l0, l1, l2, l3, l4, l5, l6, l7] [.int (u0 * u1)] H r := q_imul (mo_165 45 rfl) rfl
theorem r165_46 : Runs xs sl d 165 46 [l0, l1, l2, l3, some (.int i4), l5, l6, l7] [.int u0] H r ↔ Runs xs sl d 165 48 [l0, l1, l2, l3, some (.int i4), some (.int u0), l6, l7] [] H r := q_istore (mo_165 46 rfl) (Nat.le_of_ble_eq_true rfl) rfl rfl
theorem r165_48 : Runs xs sl d 165 48 [l0, l1, l2, l3, l4, l5, l6, l7] [] H r ↔ Runs xs sl d 165 49 [l0, l1, l2, l3, l4, l5, l6, l7] [.int 0] H r := q_iconst (mo_165 48 rfl) rfl rfl
theorem r165_49 : Runs xs sl d 165 49 [l0, l1, l2, l3, l4, some (.int i5), l6, l7] [.int u0] H r ↔ Runs xs sl d 165 51 [l0, l1, l2, l3, l4, some (.int i5), some (.int u0), l7] [] H r := q_istore (mo_165 49 rfl) (Nat.le_of_ble_eq_true rfl) rfl rfl
theorem r165_51 : Runs xs sl d 165 51 [some (.ref a0), l1, l2, l3, l4, l5, l6, l7] [] H r ↔ Runs xs sl d 165 52 [some (.ref a0), l1, l2, l3, l4, l5, l6, l7] [.ref a0] H r := q_aload_n (mo_165 51 rfl) rfl rfl
theorem r165_51n : Runs xs sl d 165 51 [some .null, l1, l2, l3, l4, l5, l6, l7] [] H r ↔ Runs xs sl d 165 52 [some .null, l1, l2, l3, l4, l5, l6, l7] [.null] H r := q_aload_nN (mo_165 51 rfl) rfl rfl
theorem r165_52 : Runs xs sl d 165 52 [l0, l1, l2, l3, some (.int i4), l5, l6, l7] [s0] H r ↔ Runs xs sl d 165 54 [l0, l1, l2, l3, some (.int i4), l5, l6, l7] [.int i4, s0] H r := q_iload (mo_165 52 rfl) rfl rfl
theorem r165_54 : Runs xs sl d 165 54 [l0, l1, some (.int i2), l3, l4, l5, l6, l7] [s1, s0] H r ↔ Runs xs sl d 165 55 [l0, l1, some (.int i2), l3, l4, l5, l6, l7] [.int i2, s1, s0] H r := q_iload_n (mo_165 54 rfl) rfl rfl
theorem r165_55 : Runs xs sl (d + 1) 165 55 [l0, l1, l2, l3, l4, l5, l6, l7] [.int u2, .int u1, .ref b0] H r ↔ ∃ v H1, Runs xs sl d 166 0 [some (.ref b0), some (.int u1), some (.int u2), none, none, none, none] [] H (v, H1) ∧ Runs xs sl (d + 1) 165 58 [l0, l1, l2, l3, l4, l5, l6, l7] (v.toList ++ []) H1 r := q_callS (M' := 166) (as := [.ref b0, .int u1, .int u2]) (rest := []) (mo_165 55 rfl) mow_165 rfl mmx_166 rfl (Nat.le_of_ble_eq_true rfl) (Nat.le_of_ble_eq_true rfl) rfl rfl
theorem r165_58 : Runs xs sl d 165 58 [l0, l1, l2, some (.int i3), l4, l5, l6, l7] [.int u0] H r ↔ Runs xs sl d 165 60 [l0, l1, l2, some (.int i3), some (.int u0), l5, l6, l7] [] H r := q_istore (mo_165 58 rfl) (Nat.le_of_ble_eq_true rfl) rfl rfl
theorem r165_60 : Runs xs sl d 165 60 [l0, l1, l2, l3, l4, some (.int i5), some (.int i6), l7] [] H r ↔ Runs xs sl d 165 63 [l0, l1, l2, l3, l4, some (.int i5), some (.int (i6 + 1)), l7] [] H r := q_iinc (mo_165 60 rfl) rfl (Nat.le_of_ble_eq_true rfl) rfl rfl
theorem r165_63 : Runs xs sl d 165 63 [l0, l1, l2, l3, l4, l5, some (.int i6), some (.int i7)] [] H r ↔ Runs xs sl d 165 66 [l0, l1, l2, l3, l4, l5, some (.int i6), some (.int (i7 + 1))] [] H r := q_iinc (mo_165 63 rfl) rfl (Nat.le_of_ble_eq_true rfl) rfl rfl
theorem r165_66 : Runs xs sl d 165 66 [l0, l1, l2, l3, l4, l5, l6, l7] [] H r ↔ Runs xs sl d 165 19 [l0, l1, l2, l3, l4, l5, l6, l7] [] H r := q_goto (mo_165 66 rfl) rfl
theorem r165_69 : Runs xs sl d 165 69 [l0, l1, l2, l3, l4, l5, some (.int i6), l7] [] H r ↔ Runs xs sl d 165 71 [l0, l1, l2, l3, l4, l5, some (.int i6), l7] [.int i6] H r := q_iload (mo_165 69 rfl) rfl rfl
theorem r165_71 : Runs xs sl d 165 71 [l0, l1, l2, l3, l4, l5, l6, l7] [.int u0] H r ↔ r = (some (.int u0), H) := q_iret (mo_165 71 rfl) mrt_165
theorem r166_0 : Runs xs sl d 166 0 [l0, l1, l2, l3, l4, l5, l6] [] H r ↔ Runs xs sl d 166 1 [l0, l1, l2, l3, l4, l5, l6] [.int 0] H r := q_iconst (mo_166 0 rfl) rfl rfl
theorem r166_1 : Runs xs sl d 166 1 [l0, l1, some (.int i2), l3, l4, l5, l6] [.int u0] H r ↔ Runs xs sl d 166 2 [l0, l1, some (.int i2), some (.int u0), l4, l5, l6] [] H r := q_istore_n (mo_166 1 rfl) (Nat.le_of_ble_eq_true rfl) rfl rfl
theorem r166_2 : Runs xs sl d 166 2 [l0, l1, l2, l3, l4, l5, l6] [] H r ↔ Runs xs sl d 166 3 [l0, l1, l2, l3, l4, l5, l6] [.int 0] H r := q_iconst (mo_166 2 rfl) rfl rfl
theorem r166_3 : Runs xs sl d 166 3 [l0, l1, l2, some (.int i3), l4, l5, l6] [.int u0] H r ↔ Runs xs sl d 166 5 [l0, l1, l2, some (.int i3), some (.int u0), l5, l6] [] H r := q_istore (mo_166 3 rfl) (Nat.le_of_ble_eq_true rfl) rfl rfl
theorem r166_5 : Runs xs sl d 166 5 [l0, l1, l2, l3, some (.int i4), l5, l6] [] H r ↔ Runs xs sl d 166 7 [l0, l1, l2, l3, some (.int i4), l5, l6] [.int i4] H r := q_iload (mo_166 5 rfl) rfl rfl
theorem r166_7 : Runs xs sl d 166 7 [some (.ref a0), l1, l2, l3, l4, l5, l6] [s0] H r ↔ Runs xs sl d 166 8 [some (.ref a0), l1, l2, l3, l4, l5, l6] [.ref a0, s0] H r := q_aload_n (mo_166 7 rfl) rfl rfl
theorem r166_7n : Runs xs sl d 166 7 [some .null, l1, l2, l3, l4, l5, l6] [s0] H r ↔ Runs xs sl d 166 8 [some .null, l1, l2, l3, l4, l5, l6] [.null, s0] H r := q_aload_nN (mo_166 7 rfl) rfl rfl
theorem r166_8 : Runs xs sl d 166 8 [l0, l1, l2, l3, l4, l5, l6] [.ref b1, s0] H r ↔ ∃ v, hO H b1 8 2 = some v ∧ Runs xs sl d 166 11 [l0, l1, l2, l3, l4, l5, l6] [v, s0] H r := q_getf (mo_166 8 rfl) mow_166 rfl rfl
theorem r166_11 : Runs xs sl d 166 11 [l0, l1, l2, l3, l4, l5, l6] [.int u1, .int u0] H r ↔ if u1 ≤ u0 then Runs xs sl d 166 86 [l0, l1, l2, l3, l4, l5, l6] [] H r else Runs xs sl d 166 14 [l0, l1, l2, l3, l4, l5, l6] [] H r := q_icmp_ge (mo_166 11 rfl) rfl rfl
theorem r166_14 : Runs xs sl d 166 14 [l0, l1, some (.int i2), l3, l4, l5, l6] [] H r ↔ Runs xs sl d 166 15 [l0, l1, some (.int i2), l3, l4, l5, l6] [.int i2] H r := q_iload_n (mo_166 14 rfl) rfl rfl
theorem r166_15 : Runs xs sl d 166 15 [l0, l1, l2, l3, some (.int i4), l5, l6] [s0] H r ↔ Runs xs sl d 166 17 [l0, l1, l2, l3, some (.int i4), l5, l6] [.int i4, s0] H r := q_iload (mo_166 15 rfl) rfl rfl
theorem r166_17 : Runs xs sl d 166 17 [l0, l1, l2, l3, l4, l5, l6] [.int u1, .int u0] H r ↔ Runs xs sl d 166 18 [l0, l1, l2, l3, l4, l5, l6] [.int (u0 >>> (u1 &&& 31))] H r := q_ishr (mo_166 17 rfl) rfl
theorem r166_18 : Runs xs sl d 166 18 [l0, l1, l2, l3, l4, l5, l6] [s0] H r ↔ Runs xs sl d 166 19 [l0, l1, l2, l3, l4, l5, l6] [.int 1, s0] H r := q_iconst (mo_166 18 rfl) rfl rfl
theorem r166_19 : Runs xs sl d 166 19 [l0, l1, l2, l3, l4, l5, l6] [.int u1, .int u0] H r ↔ Runs xs sl d 166 20 [l0, l1, l2, l3, l4, l5, l6] [.int (u0 &&& u1)] H r := q_iand (mo_166 19 rfl) rfl
theorem r166_20 : Runs xs sl d 166 20 [l0, l1, l2, l3, l4, l5, l6] [.int u0] H r ↔ if u0 = 0 then Runs xs sl d 166 27 [l0, l1, l2, l3, l4, l5, l6] [] H r else Runs xs sl d 166 23 [l0, l1, l2, l3, l4, l5, l6] [] H r := q_if_eq (mo_166 20 rfl) rfl rfl
theorem r166_23 : Runs xs sl d 166 23 [l0, l1, l2, l3, l4, l5, l6] [] H r ↔ Runs xs sl d 166 24 [l0, l1, l2, l3, l4, l5, l6] [.int 0] H r := q_iconst (mo_166 23 rfl) rfl rfl
theorem r166_24 : Runs xs sl d 166 24 [l0, l1, l2, l3, l4, l5, l6] [s0] H r ↔ Runs xs sl d 166 34 [l0, l1, l2, l3, l4, l5, l6] [s0] H r := q_goto (mo_166 24 rfl) rfl
theorem r166_27 : Runs xs sl d 166 27 [some (.ref a0), l1, l2, l3, l4, l5, l6] [] H r ↔ Runs xs sl d 166 28 [some (.ref a0), l1, l2, l3, l4, l5, l6] [.ref a0] H r := q_aload_n (mo_166 27 rfl) rfl rfl
theorem r166_27n : Runs xs sl d 166 27 [some .null, l1, l2, l3, l4, l5, l6] [] H r ↔ Runs xs sl d 166 28 [some .null, l1, l2, l3, l4, l5, l6] [.null] H r := q_aload_nN (mo_166 27 rfl) rfl rfl
theorem r166_28 : Runs xs sl d 166 28 [l0, l1, l2, l3, l4, l5, l6] [.ref b0] H r ↔ ∃ v, hO H b0 8 7 = some v ∧ Runs xs sl d 166 31 [l0, l1, l2, l3, l4, l5, l6] [v] H r := q_getf (mo_166 28 rfl) mow_166 rfl rfl
theorem r166_31 : Runs xs sl d 166 31 [l0, l1, l2, l3, some (.int i4), l5, l6] [s0] H r ↔ Runs xs sl d 166 33 [l0, l1, l2, l3, some (.int i4), l5, l6] [.int i4, s0] H r := q_iload (mo_166 31 rfl) rfl rfl
theorem r166_33 : Runs xs sl d 166 33 [l0, l1, l2, l3, l4, l5, l6] [.int u1, .ref b0] H r ↔ ∃ v, hA H b0 0 u1 = some v ∧ Runs xs sl d 166 34 [l0, l1, l2, l3, l4, l5, l6] [.int v] H r := run_iald (mo_166 33 rfl) rfl
theorem r166_34 : Runs xs sl d 166 34 [l0, l1, l2, l3, some (.int i4), l5, l6] [.int u0] H r ↔ Runs xs sl d 166 36 [l0, l1, l2, l3, some (.int i4), some (.int u0), l6] [] H r := q_istore (mo_166 34 rfl) (Nat.le_of_ble_eq_true rfl) rfl rfl
theorem r166_36 : Runs xs sl d 166 36 [l0, l1, l2, l3, l4, some (.int i5), l6] [] H r ↔ Runs xs sl d 166 38 [l0, l1, l2, l3, l4, some (.int i5), l6] [.int i5] H r := q_iload (mo_166 36 rfl) rfl rfl
theorem r166_38 : Runs xs sl d 166 38 [l0, some (.int i1), l2, l3, l4, l5, l6] [s0] H r ↔ Runs xs sl d 166 39 [l0, some (.int i1), l2, l3, l4, l5, l6] [.int i1, s0] H r := q_iload_n (mo_166 38 rfl) rfl rfl
theorem r166_39 : Runs xs sl d 166 39 [l0, l1, l2, l3, l4, l5, l6] [.int u1, .int u0] H r ↔ Runs xs sl d 166 40 [l0, l1, l2, l3, l4, l5, l6] [.int (u0 &&& u1)] H r := q_iand (mo_166 39 rfl) rfl
theorem r166_40 : Runs xs sl (d + 1) 166 40 [l0, l1, l2, l3, l4, l5, l6] [.int u0] H r ↔ ∃ v H1, Runs xs sl d 287 0 [some (.int u0)] [] H (v, H1) ∧ Runs xs sl (d + 1) 166 43 [l0, l1, l2, l3, l4, l5, l6] (v.toList ++ []) H1 r := q_callS (M' := 287) (as := [.int u0]) (rest := []) (mo_166 40 rfl) mow_166 rfl mmx_287 rfl (Nat.le_of_ble_eq_true rfl) (Nat.le_of_ble_eq_true rfl) rfl rfl
theorem r166_43 : Runs xs sl d 166 43 [l0, l1, l2, l3, l4, some (.int i5), l6] [s0] H r ↔ Runs xs sl d 166 45 [l0, l1, l2, l3, l4, some (.int i5), l6] [.int i5, s0] H r := q_iload (mo_166 43 rfl) rfl rfl
theorem r166_45 : Runs xs sl d 166 45 [l0, some (.int i1), l2, l3, l4, l5, l6] [s1, s0] H r ↔ Runs xs sl d 166 46 [l0, some (.int i1), l2, l3, l4, l5, l6] [.int i1, s1, s0] H r := q_iload_n (mo_166 45 rfl) rfl rfl
theorem r166_46 : Runs xs sl d 166 46 [l0, l1, l2, l3, l4, l5, l6] [s2, s1, s0] H r ↔ Runs xs sl d 166 48 [l0, l1, l2, l3, l4, l5, l6] [.int 8, s2, s1, s0] H r := q_bipush (mo_166 46 rfl) rfl rfl
theorem r166_48 : Runs xs sl d 166 48 [l0, l1, l2, l3, l4, l5, l6] [.int u3, .int u2, s1, s0] H r ↔ Runs xs sl d 166 49 [l0, l1, l2, l3, l4, l5, l6] [.int (u2 >>> (u3 &&& 31)), s1, s0] H r := q_ishr (mo_166 48 rfl) rfl
theorem r166_49 : Runs xs sl d 166 49 [l0, l1, l2, l3, l4, l5, l6] [.int u2, .int u1, s0] H r ↔ Runs xs sl d 166 50 [l0, l1, l2, l3, l4, l5, l6] [.int (u1 &&& u2), s0] H r := q_iand (mo_166 49 rfl) rfl
theorem r166_50 : Runs xs sl (d + 1) 166 50 [l0, l1, l2, l3, l4, l5, l6] [.int u1, .int u0] H r ↔ ∃ v H1, Runs xs sl d 287 0 [some (.int u1)] [] H (v, H1) ∧ Runs xs sl (d + 1) 166 53 [l0, l1, l2, l3, l4, l5, l6] (v.toList ++ [.int u0]) H1 r := q_callS (M' := 287) (as := [.int u1]) (rest := [.int u0]) (mo_166 50 rfl) mow_166 rfl mmx_287 rfl (Nat.le_of_ble_eq_true rfl) (Nat.le_of_ble_eq_true rfl) rfl rfl
theorem r166_53 : Runs xs sl d 166 53 [l0, l1, l2, l3, l4, l5, l6] [.int u1, .int u0] H r ↔ Runs xs sl d 166 54 [l0, l1, l2, l3, l4, l5, l6] [.int (u0 - u1)] H r := q_isub (mo_166 53 rfl) rfl
theorem r166_54 : Runs xs sl d 166 54 [l0, l1, l2, l3, l4, some (.int i5), l6] [.int u0] H r ↔ Runs xs sl d 166 56 [l0, l1, l2, l3, l4, some (.int i5), some (.int u0)] [] H r := q_istore (mo_166 54 rfl) (Nat.le_of_ble_eq_true rfl) rfl rfl
theorem r166_56 : Runs xs sl d 166 56 [l0, l1, l2, some (.int i3), l4, l5, l6] [] H r ↔ Runs xs sl d 166 57 [l0, l1, l2, some (.int i3), l4, l5, l6] [.int i3] H r := q_iload_n (mo_166 56 rfl) rfl rfl
theorem r166_57 : Runs xs sl d 166 57 [l0, l1, l2, l3, l4, l5, some (.int i6)] [s0] H r ↔ Runs xs sl d 166 59 [l0, l1, l2, l3, l4, l5, some (.int i6)] [.int i6, s0] H r := q_iload (mo_166 57 rfl) rfl rfl
theorem r166_59 : Runs xs sl d 166 59 [l0, l1, l2, l3, l4, l5, l6] [.int u1, s0] H r ↔ if u1 = 0 then Runs xs sl d 166 67 [l0, l1, l2, l3, l4, l5, l6] [s0] H r else Runs xs sl d 166 62 [l0, l1, l2, l3, l4, l5, l6] [s0] H r := q_if_eq (mo_166 59 rfl) rfl rfl
theorem r166_62 : Runs xs sl d 166 62 [l0, l1, l2, l3, l4, l5, some (.int i6)] [s0] H r ↔ Runs xs sl d 166 64 [l0, l1, l2, l3, l4, l5, some (.int i6)] [.int i6, s0] H r := q_iload (mo_166 62 rfl) rfl rfl
theorem r166_64 : Runs xs sl d 166 64 [l0, l1, l2, l3, l4, l5, l6] [s1, s0] H r ↔ Runs xs sl d 166 73 [l0, l1, l2, l3, l4, l5, l6] [s1, s0] H r := q_goto (mo_166 64 rfl) rfl
theorem r166_67 : Runs xs sl d 166 67 [l0, some (.int i1), l2, l3, l4, l5, l6] [s0] H r ↔ Runs xs sl d 166 68 [l0, some (.int i1), l2, l3, l4, l5, l6] [.int i1, s0] H r := q_iload_n (mo_166 67 rfl) rfl rfl
theorem r166_68 : Runs xs sl d 166 68 [l0, l1, l2, l3, some (.int i4), l5, l6] [s1, s0] H r ↔ Runs xs sl d 166 70 [l0, l1, l2, l3, some (.int i4), l5, l6] [.int i4, s1, s0] H r := q_iload (mo_166 68 rfl) rfl rfl
theorem r166_70 : Runs xs sl (d + 1) 166 70 [l0, l1, l2, l3, l4, l5, l6] [.int u2, .int u1, .int u0] H r ↔ ∃ v H1, Runs xs sl d 167 0 [some (.int u1), some (.int u2)] [] H (v, H1) ∧ Runs xs sl (d + 1) 166 73 [l0, l1, l2, l3, l4, l5, l6] (v.toList ++ [.int u0]) H1 r := q_callS (M' := 167) (as := [.int u1, .int u2]) (rest := [.int u0]) (mo_166 70 rfl) mow_166 rfl mmx_167 rfl (Nat.le_of_ble_eq_true rfl) (Nat.le_of_ble_eq_true rfl) rfl rfl
theorem r166_73 : Runs xs sl d 166 73 [l0, l1, l2, l3, some (.int i4), l5, l6] [s1, s0] H r ↔ Runs xs sl d 166 75 [l0, l1, l2, l3, some (.int i4), l5, l6] [.int i4, s1, s0] H r := q_iload (mo_166 73 rfl) rfl rfl
theorem r166_75 : Runs xs sl (d + 1) 166 75 [l0, l1, l2, l3, l4, l5, l6] [.int u2, .int u1, .int u0] H r ↔ ∃ v H1, Runs xs sl d 164 0 [some (.int u1), some (.int u2)] [] H (v, H1) ∧ Runs xs sl (d + 1) 166 78 [l0, l1, l2, l3, l4, l5, l6] (v.toList ++ [.int u0]) H1 r := q_callS (M' := 164) (as := [.int u1, .int u2]) (rest := [.int u0]) (mo_166 75 rfl) mow_166 rfl mmx_164 rfl (Nat.le_of_ble_eq_true rfl) (Nat.le_of_ble_eq_true rfl) rfl rfl
theorem r166_78 : Runs xs sl d 166 78 [l0, l1, l2, l3, l4, l5, l6] [.int u1, .int u0] H r ↔ Runs xs sl d 166 79 [l0, l1, l2, l3, l4, l5, l6] [.int (u0 ||| u1)] H r := q_ior (mo_166 78 rfl) rfl
theorem r166_79 : Runs xs sl d 166 79 [l0, l1, some (.int i2), l3, l4, l5, l6] [.int u0] H r ↔ Runs xs sl d 166 80 [l0, l1, some (.int i2), some (.int u0), l4, l5, l6] [] H r := q_istore_n (mo_166 79 rfl) (Nat.le_of_ble_eq_true rfl) rfl rfl
theorem r166_80 : Runs xs sl d 166 80 [l0, l1, l2, some (.int i3), some (.int i4), l5, l6] [] H r ↔ Runs xs sl d 166 83 [l0, l1, l2, some (.int i3), some (.int (i4 + 1)), l5, l6] [] H r := q_iinc (mo_166 80 rfl) rfl (Nat.le_of_ble_eq_true rfl) rfl rfl
theorem r166_83 : Runs xs sl d 166 83 [l0, l1, l2, l3, l4, l5, l6] [] H r ↔ Runs xs sl d 166 5 [l0, l1, l2, l3, l4, l5, l6] [] H r := q_goto (mo_166 83 rfl) rfl
theorem r166_86 : Runs xs sl d 166 86 [l0, l1, l2, some (.int i3), l4, l5, l6] [] H r ↔ Runs xs sl d 166 87 [l0, l1, l2, some (.int i3), l4, l5, l6] [.int i3] H r := q_iload_n (mo_166 86 rfl) rfl rfl
theorem r166_87 : Runs xs sl d 166 87 [l0, l1, l2, l3, l4, l5, l6] [.int u0] H r ↔ r = (some (.int u0), H) := q_iret (mo_166 87 rfl) mrt_166
theorem r167_0 : Runs xs sl d 167 0 [some (.int i0), l1] [] H r ↔ Runs xs sl d 167 1 [some (.int i0), l1] [.int i0] H r := q_iload_n (mo_167 0 rfl) rfl rfl
theorem r167_1 : Runs xs sl d 167 1 [l0, some (.int i1)] [s0] H r ↔ Runs xs sl d 167 2 [l0, some (.int i1)] [.int i1, s0] H r := q_iload_n (mo_167 1 rfl) rfl rfl
theorem r167_2 : Runs xs sl d 167 2 [l0, l1] [.int u1, .int u0] H r ↔ Runs xs sl d 167 3 [l0, l1] [.int (u0 >>> (u1 &&& 31))] H r := q_ishr (mo_167 2 rfl) rfl
theorem r167_3 : Runs xs sl d 167 3 [l0, l1] [s0] H r ↔ Runs xs sl d 167 4 [l0, l1] [.int 1, s0] H r := q_iconst (mo_167 3 rfl) rfl rfl
theorem r167_4 : Runs xs sl d 167 4 [l0, l1] [.int u1, .int u0] H r ↔ Runs xs sl d 167 5 [l0, l1] [.int (u0 &&& u1)] H r := q_iand (mo_167 4 rfl) rfl
theorem r167_5 : Runs xs sl d 167 5 [some (.int i0), l1] [s0] H r ↔ Runs xs sl d 167 6 [some (.int i0), l1] [.int i0, s0] H r := q_iload_n (mo_167 5 rfl) rfl rfl
theorem r167_6 : Runs xs sl d 167 6 [l0, some (.int i1)] [s1, s0] H r ↔ Runs xs sl d 167 7 [l0, some (.int i1)] [.int i1, s1, s0] H r := q_iload_n (mo_167 6 rfl) rfl rfl
theorem r167_7 : Runs xs sl d 167 7 [l0, l1] [s2, s1, s0] H r ↔ Runs xs sl d 167 9 [l0, l1] [.int 8, s2, s1, s0] H r := q_bipush (mo_167 7 rfl) rfl rfl
theorem r167_9 : Runs xs sl d 167 9 [l0, l1] [.int u3, .int u2, s1, s0] H r ↔ Runs xs sl d 167 10 [l0, l1] [.int (u2 + u3), s1, s0] H r := q_iadd (mo_167 9 rfl) rfl
theorem r167_10 : Runs xs sl d 167 10 [l0, l1] [.int u2, .int u1, s0] H r ↔ Runs xs sl d 167 11 [l0, l1] [.int (u1 >>> (u2 &&& 31)), s0] H r := q_ishr (mo_167 10 rfl) rfl
theorem r167_11 : Runs xs sl d 167 11 [l0, l1] [s1, s0] H r ↔ Runs xs sl d 167 12 [l0, l1] [.int 1, s1, s0] H r := q_iconst (mo_167 11 rfl) rfl rfl
theorem r167_12 : Runs xs sl d 167 12 [l0, l1] [.int u2, .int u1, s0] H r ↔ Runs xs sl d 167 13 [l0, l1] [.int (u1 &&& u2), s0] H r := q_iand (mo_167 12 rfl) rfl
theorem r167_13 : Runs xs sl d 167 13 [l0, l1] [.int u1, .int u0] H r ↔ Runs xs sl d 167 14 [l0, l1] [.int (u0 - u1)] H r := q_isub (mo_167 13 rfl) rfl
theorem r167_14 : Runs xs sl d 167 14 [l0, l1] [.int u0] H r ↔ r = (some (.int u0), H) := q_iret (mo_167 14 rfl) mrt_167
theorem r168_0 : Runs xs sl d 168 0 [some (.ref a0), l1, l2, l3, l4] [] H r ↔ Runs xs sl d 168 1 [some (.ref a0), l1, l2, l3, l4] [.ref a0] H r := q_aload_n (mo_168 0 rfl) rfl rfl
theorem r168_0n : Runs xs sl d 168 0 [some .null, l1, l2, l3, l4] [] H r ↔ Runs xs sl d 168 1 [some .null, l1, l2, l3, l4] [.null] H r := q_aload_nN (mo_168 0 rfl) rfl rfl
theorem r168_1 : Runs xs sl d 168 1 [l0, some (.int i1), l2, l3, l4] [s0] H r ↔ Runs xs sl d 168 2 [l0, some (.int i1), l2, l3, l4] [.int i1, s0] H r := q_iload_n (mo_168 1 rfl) rfl rfl
theorem r168_2 : Runs xs sl (d + 1) 168 2 [l0, l1, l2, l3, l4] [.int u1, .ref b0] H r ↔ ∃ v H1, Runs xs sl d 163 0 [some (.ref b0), some (.int u1), none, none] [] H (v, H1) ∧ Runs xs sl (d + 1) 168 5 [l0, l1, l2, l3, l4] (v.toList ++ []) H1 r := q_callS (M' := 163) (as := [.ref b0, .int u1]) (rest := []) (mo_168 2 rfl) mow_168 rfl mmx_163 rfl (Nat.le_of_ble_eq_true rfl) (Nat.le_of_ble_eq_true rfl) rfl rfl
theorem r168_5 : Runs xs sl d 168 5 [l0, some (.int i1), l2, l3, l4] [.int u0] H r ↔ Runs xs sl d 168 6 [l0, some (.int i1), some (.int u0), l3, l4] [] H r := q_istore_n (mo_168 5 rfl) (Nat.le_of_ble_eq_true rfl) rfl rfl
theorem r168_6 : Runs xs sl d 168 6 [l0, l1, l2, l3, l4] [] H r ↔ Runs xs sl d 168 7 [l0, l1, l2, l3, l4] [.int 1] H r := q_iconst (mo_168 6 rfl) rfl rfl
theorem r168_7 : Runs xs sl d 168 7 [some (.ref a0), l1, l2, l3, l4] [s0] H r ↔ Runs xs sl d 168 8 [some (.ref a0), l1, l2, l3, l4] [.ref a0, s0] H r := q_aload_n (mo_168 7 rfl) rfl rfl
theorem r168_7n : Runs xs sl d 168 7 [some .null, l1, l2, l3, l4] [s0] H r ↔ Runs xs sl d 168 8 [some .null, l1, l2, l3, l4] [.null, s0] H r := q_aload_nN (mo_168 7 rfl) rfl rfl
theorem r168_8 : Runs xs sl d 168 8 [l0, l1, l2, l3, l4] [.ref b1, s0] H r ↔ ∃ v, hO H b1 8 2 = some v ∧ Runs xs sl d 168 11 [l0, l1, l2, l3, l4] [v, s0] H r := q_getf (mo_168 8 rfl) mow_168 rfl rfl
theorem r168_11 : Runs xs sl d 168 11 [l0, l1, l2, l3, l4] [.int u1, .int u0] H r ↔ Runs xs sl d 168 12 [l0, l1, l2, l3, l4] [.int (u0 <<< (u1 &&& 31))] H r := q_ishl (mo_168 11 rfl) rfl
theorem r168_12 : Runs xs sl d 168 12 [l0, l1, l2, l3, l4] [s0] H r ↔ Runs xs sl d 168 13 [l0, l1, l2, l3, l4] [.int 1, s0] H r := q_iconst (mo_168 12 rfl) rfl rfl
theorem r168_13 : Runs xs sl d 168 13 [l0, l1, l2, l3, l4] [.int u1, .int u0] H r ↔ Runs xs sl d 168 14 [l0, l1, l2, l3, l4] [.int (u0 - u1)] H r := q_isub (mo_168 13 rfl) rfl
theorem r168_14 : Runs xs sl d 168 14 [l0, l1, some (.int i2), l3, l4] [.int u0] H r ↔ Runs xs sl d 168 15 [l0, l1, some (.int i2), some (.int u0), l4] [] H r := q_istore_n (mo_168 14 rfl) (Nat.le_of_ble_eq_true rfl) rfl rfl
theorem r168_15 : Runs xs sl d 168 15 [l0, l1, l2, l3, l4] [] H r ↔ Runs xs sl d 168 16 [l0, l1, l2, l3, l4] [.int 0] H r := q_iconst (mo_168 15 rfl) rfl rfl
theorem r168_16 : Runs xs sl d 168 16 [l0, l1, l2, some (.int i3), l4] [.int u0] H r ↔ Runs xs sl d 168 18 [l0, l1, l2, some (.int i3), some (.int u0)] [] H r := q_istore (mo_168 16 rfl) (Nat.le_of_ble_eq_true rfl) rfl rfl
theorem r168_18 : Runs xs sl d 168 18 [l0, l1, l2, l3, some (.int i4)] [] H r ↔ Runs xs sl d 168 20 [l0, l1, l2, l3, some (.int i4)] [.int i4] H r := q_iload (mo_168 18 rfl) rfl rfl
theorem r168_20 : Runs xs sl d 168 20 [l0, l1, l2, l3, l4] [s0] H r ↔ Runs xs sl d 168 21 [l0, l1, l2, l3, l4] [.int 1, s0] H r := q_iconst (mo_168 20 rfl) rfl rfl
theorem r168_21 : Runs xs sl d 168 21 [some (.ref a0), l1, l2, l3, l4] [s1, s0] H r ↔ Runs xs sl d 168 22 [some (.ref a0), l1, l2, l3, l4] [.ref a0, s1, s0] H r := q_aload_n (mo_168 21 rfl) rfl rfl
theorem r168_21n : Runs xs sl d 168 21 [some .null, l1, l2, l3, l4] [s1, s0] H r ↔ Runs xs sl d 168 22 [some .null, l1, l2, l3, l4] [.null, s1, s0] H r := q_aload_nN (mo_168 21 rfl) rfl rfl
theorem r168_22 : Runs xs sl d 168 22 [l0, l1, l2, l3, l4] [.ref b2, s1, s0] H r ↔ ∃ v, hO H b2 8 2 = some v ∧ Runs xs sl d 168 25 [l0, l1, l2, l3, l4] [v, s1, s0] H r := q_getf (mo_168 22 rfl) mow_168 rfl rfl
theorem r168_25 : Runs xs sl d 168 25 [l0, l1, l2, l3, l4] [.int u2, .int u1, s0] H r ↔ Runs xs sl d 168 26 [l0, l1, l2, l3, l4] [.int (u1 <<< (u2 &&& 31)), s0] H r := q_ishl (mo_168 25 rfl) rfl
theorem r168_26 : Runs xs sl d 168 26 [l0, l1, l2, l3, l4] [.int u1, .int u0] H r ↔ if u1 ≤ u0 then Runs xs sl d 168 61 [l0, l1, l2, l3, l4] [] H r else Runs xs sl d 168 29 [l0, l1, l2, l3, l4] [] H r := q_icmp_ge (mo_168 26 rfl) rfl rfl
theorem r168_29 : Runs xs sl d 168 29 [l0, l1, l2, l3, some (.int i4)] [] H r ↔ Runs xs sl d 168 31 [l0, l1, l2, l3, some (.int i4)] [.int i4] H r := q_iload (mo_168 29 rfl) rfl rfl
theorem r168_31 : Runs xs sl (d + 1) 168 31 [l0, l1, l2, l3, l4] [.int u0] H r ↔ ∃ v H1, Runs xs sl d 287 0 [some (.int u0)] [] H (v, H1) ∧ Runs xs sl (d + 1) 168 34 [l0, l1, l2, l3, l4] (v.toList ++ []) H1 r := q_callS (M' := 287) (as := [.int u0]) (rest := []) (mo_168 31 rfl) mow_168 rfl mmx_287 rfl (Nat.le_of_ble_eq_true rfl) (Nat.le_of_ble_eq_true rfl) rfl rfl
theorem r168_34 : Runs xs sl d 168 34 [l0, l1, l2, some (.int i3), l4] [s0] H r ↔ Runs xs sl d 168 35 [l0, l1, l2, some (.int i3), l4] [.int i3, s0] H r := q_iload_n (mo_168 34 rfl) rfl rfl
theorem r168_35 : Runs xs sl (d + 1) 168 35 [l0, l1, l2, l3, l4] [.int u1, .int u0] H r ↔ ∃ v H1, Runs xs sl d 287 0 [some (.int u1)] [] H (v, H1) ∧ Runs xs sl (d + 1) 168 38 [l0, l1, l2, l3, l4] (v.toList ++ [.int u0]) H1 r := q_callS (M' := 287) (as := [.int u1]) (rest := [.int u0]) (mo_168 35 rfl) mow_168 rfl mmx_287 rfl (Nat.le_of_ble_eq_true rfl) (Nat.le_of_ble_eq_true rfl) rfl rfl
theorem r168_38 : Runs xs sl d 168 38 [l0, l1, l2, l3, l4] [.int u1, .int u0] H r ↔ if u1 ≤ u0 then Runs xs sl d 168 55 [l0, l1, l2, l3, l4] [] H r else Runs xs sl d 168 41 [l0, l1, l2, l3, l4] [] H r := q_icmp_ge (mo_168 38 rfl) rfl rfl
theorem r168_41 : Runs xs sl d 168 41 [some (.ref a0), l1, l2, l3, l4] [] H r ↔ Runs xs sl d 168 42 [some (.ref a0), l1, l2, l3, l4] [.ref a0] H r := q_aload_n (mo_168 41 rfl) rfl rfl
theorem r168_41n : Runs xs sl d 168 41 [some .null, l1, l2, l3, l4] [] H r ↔ Runs xs sl d 168 42 [some .null, l1, l2, l3, l4] [.null] H r := q_aload_nN (mo_168 41 rfl) rfl rfl
theorem r168_42 : Runs xs sl d 168 42 [l0, l1, some (.int i2), l3, l4] [s0] H r ↔ Runs xs sl d 168 43 [l0, l1, some (.int i2), l3, l4] [.int i2, s0] H r := q_iload_n (mo_168 42 rfl) rfl rfl
theorem r168_43 : Runs xs sl d 168 43 [l0, l1, l2, l3, some (.int i4)] [s1, s0] H r ↔ Runs xs sl d 168 45 [l0, l1, l2, l3, some (.int i4)] [.int i4, s1, s0] H r := q_iload (mo_168 43 rfl) rfl rfl
theorem r168_45 : Runs xs sl (d + 1) 168 45 [l0, l1, l2, l3, l4] [.int u2, .int u1, .ref b0] H r ↔ ∃ v H1, Runs xs sl d 165 0 [some (.ref b0), some (.int u1), some (.int u2), none, none, none, none, none] [] H (v, H1) ∧ Runs xs sl (d + 1) 168 48 [l0, l1, l2, l3, l4] (v.toList ++ []) H1 r := q_callS (M' := 165) (as := [.ref b0, .int u1, .int u2]) (rest := []) (mo_168 45 rfl) mow_168 rfl mmx_165 rfl (Nat.le_of_ble_eq_true rfl) (Nat.le_of_ble_eq_true rfl) rfl rfl
theorem r168_48 : Runs xs sl d 168 48 [l0, l1, l2, l3, l4] [s0] H r ↔ Runs xs sl d 168 49 [l0, l1, l2, l3, l4] [.int 1, s0] H r := q_iconst (mo_168 48 rfl) rfl rfl
theorem r168_49 : Runs xs sl d 168 49 [l0, l1, l2, l3, l4] [.int u1, .int u0] H r ↔ if ¬ u0 = u1 then Runs xs sl d 168 55 [l0, l1, l2, l3, l4] [] H r else Runs xs sl d 168 52 [l0, l1, l2, l3, l4] [] H r := q_icmp_ne (mo_168 49 rfl) rfl rfl
theorem r168_52 : Runs xs sl d 168 52 [l0, l1, l2, l3, some (.int i4)] [] H r ↔ Runs xs sl d 168 54 [l0, l1, l2, l3, some (.int i4)] [.int i4] H r := q_iload (mo_168 52 rfl) rfl rfl
theorem r168_54 : Runs xs sl d 168 54 [l0, l1, some (.int i2), l3, l4] [.int u0] H r ↔ Runs xs sl d 168 55 [l0, l1, some (.int i2), some (.int u0), l4] [] H r := q_istore_n (mo_168 54 rfl) (Nat.le_of_ble_eq_true rfl) rfl rfl
theorem r168_55 : Runs xs sl d 168 55 [l0, l1, l2, some (.int i3), some (.int i4)] [] H r ↔ Runs xs sl d 168 58 [l0, l1, l2, some (.int i3), some (.int (i4 + 1))] [] H r := q_iinc (mo_168 55 rfl) rfl (Nat.le_of_ble_eq_true rfl) rfl rfl
theorem r168_58 : Runs xs sl d 168 58 [l0, l1, l2, l3, l4] [] H r ↔ Runs xs sl d 168 18 [l0, l1, l2, l3, l4] [] H r := q_goto (mo_168 58 rfl) rfl
theorem r168_61 : Runs xs sl d 168 61 [l0, l1, l2, some (.int i3), l4] [] H r ↔ Runs xs sl d 168 62 [l0, l1, l2, some (.int i3), l4] [.int i3] H r := q_iload_n (mo_168 61 rfl) rfl rfl
theorem r168_62 : Runs xs sl d 168 62 [l0, l1, l2, l3, l4] [.int u0] H r ↔ r = (some (.int u0), H) := q_iret (mo_168 62 rfl) mrt_168
end ROWS
