/-! ROWS, printed by wip/whole/rows.py: 286:293 -/
section ROWS
variable {xs : Nat → Int32} {sl d : Nat} {H : mH} {r : Option Value × mH} {l0 l1 l2 l3 l4 l5 l6 l7 l8 l9 l10 l11 : Option Value} {s0 s1 s2 s3 s4 s5 s6 s7 s8 s9 s10 s11 : Value} {i0 i1 i2 i3 i4 i5 i6 i7 i8 i9 i10 i11 : Int32} {j0 j1 j2 j3 j4 j5 j6 j7 j8 j9 j10 j11 : Int64} {a0 a1 a2 a3 a4 a5 a6 a7 a8 a9 a10 a11 : Nat} {u0 u1 u2 u3 u4 u5 u6 u7 u8 u9 u10 u11 : Int32} {w0 w1 w2 w3 w4 w5 w6 w7 w8 w9 w10 w11 : Int64} {b0 b1 b2 b3 b4 b5 b6 b7 b8 b9 b10 b11 : Nat}
theorem r286_0 : Runs xs sl d 286 0 [some (.int i0)] [] H r ↔ Runs xs sl d 286 1 [some (.int i0)] [.int i0] H r := q_iload_n (mo_286 0 rfl) rfl rfl
theorem r286_1 : Runs xs sl d 286 1 [l0] [s0] H r ↔ Runs xs sl d 286 3 [l0] [.int 31, s0] H r := q_bipush (mo_286 1 rfl) rfl rfl
theorem r286_3 : Runs xs sl d 286 3 [l0] [.int u1, .int u0] H r ↔ Runs xs sl d 286 4 [l0] [.int (u0 >>> (u1 &&& 31))] H r := q_ishr (mo_286 3 rfl) rfl
theorem r286_4 : Runs xs sl d 286 4 [some (.int i0)] [s0] H r ↔ Runs xs sl d 286 5 [some (.int i0)] [.int i0, s0] H r := q_iload_n (mo_286 4 rfl) rfl rfl
theorem r286_5 : Runs xs sl d 286 5 [l0] [.int u1, s0] H r ↔ Runs xs sl d 286 6 [l0] [.int (-u1), s0] H r := q_ineg (mo_286 5 rfl) rfl
theorem r286_6 : Runs xs sl d 286 6 [l0] [s1, s0] H r ↔ Runs xs sl d 286 8 [l0] [.int 31, s1, s0] H r := q_bipush (mo_286 6 rfl) rfl rfl
theorem r286_8 : Runs xs sl d 286 8 [l0] [.int u2, .int u1, s0] H r ↔ Runs xs sl d 286 9 [l0] [.int ((u1.toUInt32 >>> (u2.toUInt32 &&& Int32.toUInt32 31)).toInt32), s0] H r := q_iushr (mo_286 8 rfl) rfl
theorem r286_9 : Runs xs sl d 286 9 [l0] [.int u1, .int u0] H r ↔ Runs xs sl d 286 10 [l0] [.int (u0 ||| u1)] H r := q_ior (mo_286 9 rfl) rfl
theorem r286_10 : Runs xs sl d 286 10 [l0] [.int u0] H r ↔ r = (some (.int u0), H) := q_iret (mo_286 10 rfl) mrt_286
theorem r287_0 : Runs xs sl d 287 0 [some (.int i0)] [] H r ↔ Runs xs sl d 287 1 [some (.int i0)] [.int i0] H r := q_iload_n (mo_287 0 rfl) rfl rfl
theorem r287_1 : Runs xs sl d 287 1 [some (.int i0)] [s0] H r ↔ Runs xs sl d 287 2 [some (.int i0)] [.int i0, s0] H r := q_iload_n (mo_287 1 rfl) rfl rfl
theorem r287_2 : Runs xs sl d 287 2 [l0] [s1, s0] H r ↔ Runs xs sl d 287 3 [l0] [.int 1, s1, s0] H r := q_iconst (mo_287 2 rfl) rfl rfl
theorem r287_3 : Runs xs sl d 287 3 [l0] [.int u2, .int u1, s0] H r ↔ Runs xs sl d 287 4 [l0] [.int ((u1.toUInt32 >>> (u2.toUInt32 &&& Int32.toUInt32 31)).toInt32), s0] H r := q_iushr (mo_287 3 rfl) rfl
theorem r287_4 : Runs xs sl d 287 4 [l0] [s1, s0] H r ↔ Runs xs sl d 287 7 [l0] [.int 1431655765, s1, s0] H r := q_ldc_w (mo_287 4 rfl) mow_287 rfl rfl
theorem r287_7 : Runs xs sl d 287 7 [l0] [.int u2, .int u1, s0] H r ↔ Runs xs sl d 287 8 [l0] [.int (u1 &&& u2), s0] H r := q_iand (mo_287 7 rfl) rfl
theorem r287_8 : Runs xs sl d 287 8 [l0] [.int u1, .int u0] H r ↔ Runs xs sl d 287 9 [l0] [.int (u0 - u1)] H r := q_isub (mo_287 8 rfl) rfl
theorem r287_9 : Runs xs sl d 287 9 [l0] [.int u0] H r ↔ Runs xs sl d 287 10 [some (.int u0)] [] H r := q_istore_n (mo_287 9 rfl) (Nat.le_of_ble_eq_true rfl) rfl rfl
theorem r287_10 : Runs xs sl d 287 10 [some (.int i0)] [] H r ↔ Runs xs sl d 287 11 [some (.int i0)] [.int i0] H r := q_iload_n (mo_287 10 rfl) rfl rfl
theorem r287_11 : Runs xs sl d 287 11 [l0] [s0] H r ↔ Runs xs sl d 287 14 [l0] [.int 858993459, s0] H r := q_ldc_w (mo_287 11 rfl) mow_287 rfl rfl
theorem r287_14 : Runs xs sl d 287 14 [l0] [.int u1, .int u0] H r ↔ Runs xs sl d 287 15 [l0] [.int (u0 &&& u1)] H r := q_iand (mo_287 14 rfl) rfl
theorem r287_15 : Runs xs sl d 287 15 [some (.int i0)] [s0] H r ↔ Runs xs sl d 287 16 [some (.int i0)] [.int i0, s0] H r := q_iload_n (mo_287 15 rfl) rfl rfl
theorem r287_16 : Runs xs sl d 287 16 [l0] [s1, s0] H r ↔ Runs xs sl d 287 17 [l0] [.int 2, s1, s0] H r := q_iconst (mo_287 16 rfl) rfl rfl
theorem r287_17 : Runs xs sl d 287 17 [l0] [.int u2, .int u1, s0] H r ↔ Runs xs sl d 287 18 [l0] [.int ((u1.toUInt32 >>> (u2.toUInt32 &&& Int32.toUInt32 31)).toInt32), s0] H r := q_iushr (mo_287 17 rfl) rfl
theorem r287_18 : Runs xs sl d 287 18 [l0] [s1, s0] H r ↔ Runs xs sl d 287 21 [l0] [.int 858993459, s1, s0] H r := q_ldc_w (mo_287 18 rfl) mow_287 rfl rfl
theorem r287_21 : Runs xs sl d 287 21 [l0] [.int u2, .int u1, s0] H r ↔ Runs xs sl d 287 22 [l0] [.int (u1 &&& u2), s0] H r := q_iand (mo_287 21 rfl) rfl
theorem r287_22 : Runs xs sl d 287 22 [l0] [.int u1, .int u0] H r ↔ Runs xs sl d 287 23 [l0] [.int (u0 + u1)] H r := q_iadd (mo_287 22 rfl) rfl
theorem r287_23 : Runs xs sl d 287 23 [l0] [.int u0] H r ↔ Runs xs sl d 287 24 [some (.int u0)] [] H r := q_istore_n (mo_287 23 rfl) (Nat.le_of_ble_eq_true rfl) rfl rfl
theorem r287_24 : Runs xs sl d 287 24 [some (.int i0)] [] H r ↔ Runs xs sl d 287 25 [some (.int i0)] [.int i0] H r := q_iload_n (mo_287 24 rfl) rfl rfl
theorem r287_25 : Runs xs sl d 287 25 [some (.int i0)] [s0] H r ↔ Runs xs sl d 287 26 [some (.int i0)] [.int i0, s0] H r := q_iload_n (mo_287 25 rfl) rfl rfl
theorem r287_26 : Runs xs sl d 287 26 [l0] [s1, s0] H r ↔ Runs xs sl d 287 27 [l0] [.int 4, s1, s0] H r := q_iconst (mo_287 26 rfl) rfl rfl
theorem r287_27 : Runs xs sl d 287 27 [l0] [.int u2, .int u1, s0] H r ↔ Runs xs sl d 287 28 [l0] [.int ((u1.toUInt32 >>> (u2.toUInt32 &&& Int32.toUInt32 31)).toInt32), s0] H r := q_iushr (mo_287 27 rfl) rfl
theorem r287_28 : Runs xs sl d 287 28 [l0] [.int u1, .int u0] H r ↔ Runs xs sl d 287 29 [l0] [.int (u0 + u1)] H r := q_iadd (mo_287 28 rfl) rfl
theorem r287_29 : Runs xs sl d 287 29 [l0] [s0] H r ↔ Runs xs sl d 287 32 [l0] [.int 252645135, s0] H r := q_ldc_w (mo_287 29 rfl) mow_287 rfl rfl
theorem r287_32 : Runs xs sl d 287 32 [l0] [.int u1, .int u0] H r ↔ Runs xs sl d 287 33 [l0] [.int (u0 &&& u1)] H r := q_iand (mo_287 32 rfl) rfl
theorem r287_33 : Runs xs sl d 287 33 [l0] [.int u0] H r ↔ Runs xs sl d 287 34 [some (.int u0)] [] H r := q_istore_n (mo_287 33 rfl) (Nat.le_of_ble_eq_true rfl) rfl rfl
theorem r287_34 : Runs xs sl d 287 34 [some (.int i0)] [] H r ↔ Runs xs sl d 287 35 [some (.int i0)] [.int i0] H r := q_iload_n (mo_287 34 rfl) rfl rfl
theorem r287_35 : Runs xs sl d 287 35 [some (.int i0)] [s0] H r ↔ Runs xs sl d 287 36 [some (.int i0)] [.int i0, s0] H r := q_iload_n (mo_287 35 rfl) rfl rfl
theorem r287_36 : Runs xs sl d 287 36 [l0] [s1, s0] H r ↔ Runs xs sl d 287 38 [l0] [.int 8, s1, s0] H r := q_bipush (mo_287 36 rfl) rfl rfl
theorem r287_38 : Runs xs sl d 287 38 [l0] [.int u2, .int u1, s0] H r ↔ Runs xs sl d 287 39 [l0] [.int ((u1.toUInt32 >>> (u2.toUInt32 &&& Int32.toUInt32 31)).toInt32), s0] H r := q_iushr (mo_287 38 rfl) rfl
theorem r287_39 : Runs xs sl d 287 39 [l0] [.int u1, .int u0] H r ↔ Runs xs sl d 287 40 [l0] [.int (u0 + u1)] H r := q_iadd (mo_287 39 rfl) rfl
theorem r287_40 : Runs xs sl d 287 40 [l0] [.int u0] H r ↔ Runs xs sl d 287 41 [some (.int u0)] [] H r := q_istore_n (mo_287 40 rfl) (Nat.le_of_ble_eq_true rfl) rfl rfl
theorem r287_41 : Runs xs sl d 287 41 [some (.int i0)] [] H r ↔ Runs xs sl d 287 42 [some (.int i0)] [.int i0] H r := q_iload_n (mo_287 41 rfl) rfl rfl
theorem r287_42 : Runs xs sl d 287 42 [some (.int i0)] [s0] H r ↔ Runs xs sl d 287 43 [some (.int i0)] [.int i0, s0] H r := q_iload_n (mo_287 42 rfl) rfl rfl
theorem r287_43 : Runs xs sl d 287 43 [l0] [s1, s0] H r ↔ Runs xs sl d 287 45 [l0] [.int 16, s1, s0] H r := q_bipush (mo_287 43 rfl) rfl rfl
theorem r287_45 : Runs xs sl d 287 45 [l0] [.int u2, .int u1, s0] H r ↔ Runs xs sl d 287 46 [l0] [.int ((u1.toUInt32 >>> (u2.toUInt32 &&& Int32.toUInt32 31)).toInt32), s0] H r := q_iushr (mo_287 45 rfl) rfl
theorem r287_46 : Runs xs sl d 287 46 [l0] [.int u1, .int u0] H r ↔ Runs xs sl d 287 47 [l0] [.int (u0 + u1)] H r := q_iadd (mo_287 46 rfl) rfl
theorem r287_47 : Runs xs sl d 287 47 [l0] [.int u0] H r ↔ Runs xs sl d 287 48 [some (.int u0)] [] H r := q_istore_n (mo_287 47 rfl) (Nat.le_of_ble_eq_true rfl) rfl rfl
theorem r287_48 : Runs xs sl d 287 48 [some (.int i0)] [] H r ↔ Runs xs sl d 287 49 [some (.int i0)] [.int i0] H r := q_iload_n (mo_287 48 rfl) rfl rfl
theorem r287_49 : Runs xs sl d 287 49 [l0] [s0] H r ↔ Runs xs sl d 287 51 [l0] [.int 63, s0] H r := q_bipush (mo_287 49 rfl) rfl rfl
theorem r287_51 : Runs xs sl d 287 51 [l0] [.int u1, .int u0] H r ↔ Runs xs sl d 287 52 [l0] [.int (u0 &&& u1)] H r := q_iand (mo_287 51 rfl) rfl
theorem r287_52 : Runs xs sl d 287 52 [l0] [.int u0] H r ↔ r = (some (.int u0), H) := q_iret (mo_287 52 rfl) mrt_287
theorem r288_0 : Runs xs sl d 288 0 [some (.int i0), l1] [] H r ↔ Runs xs sl d 288 1 [some (.int i0), l1] [.int i0] H r := q_iload_n (mo_288 0 rfl) rfl rfl
theorem r288_1 : Runs xs sl d 288 1 [l0, some (.int i1)] [s0] H r ↔ Runs xs sl d 288 2 [l0, some (.int i1)] [.int i1, s0] H r := q_iload_n (mo_288 1 rfl) rfl rfl
theorem r288_2 : Runs xs sl d 288 2 [l0, l1] [.int u1, .int u0] H r ↔ if u1 < u0 then Runs xs sl d 288 9 [l0, l1] [] H r else Runs xs sl d 288 5 [l0, l1] [] H r := q_icmp_gt (mo_288 2 rfl) rfl rfl
theorem r288_5 : Runs xs sl d 288 5 [some (.int i0), l1] [] H r ↔ Runs xs sl d 288 6 [some (.int i0), l1] [.int i0] H r := q_iload_n (mo_288 5 rfl) rfl rfl
theorem r288_6 : Runs xs sl d 288 6 [l0, l1] [s0] H r ↔ Runs xs sl d 288 10 [l0, l1] [s0] H r := q_goto (mo_288 6 rfl) rfl
theorem r288_9 : Runs xs sl d 288 9 [l0, some (.int i1)] [] H r ↔ Runs xs sl d 288 10 [l0, some (.int i1)] [.int i1] H r := q_iload_n (mo_288 9 rfl) rfl rfl
theorem r288_10 : Runs xs sl d 288 10 [l0, l1] [.int u0] H r ↔ r = (some (.int u0), H) := q_iret (mo_288 10 rfl) mrt_288
theorem r289_0 : Runs xs sl d 289 0 [some (.int i0), l1] [] H r ↔ Runs xs sl d 289 1 [some (.int i0), l1] [.int i0] H r := q_iload_n (mo_289 0 rfl) rfl rfl
theorem r289_1 : Runs xs sl d 289 1 [l0, some (.int i1)] [s0] H r ↔ Runs xs sl d 289 2 [l0, some (.int i1)] [.int i1, s0] H r := q_iload_n (mo_289 1 rfl) rfl rfl
theorem r289_2 : Runs xs sl d 289 2 [l0, l1] [.int u1, .int u0] H r ↔ if u0 < u1 then Runs xs sl d 289 9 [l0, l1] [] H r else Runs xs sl d 289 5 [l0, l1] [] H r := q_icmp_lt (mo_289 2 rfl) rfl rfl
theorem r289_5 : Runs xs sl d 289 5 [some (.int i0), l1] [] H r ↔ Runs xs sl d 289 6 [some (.int i0), l1] [.int i0] H r := q_iload_n (mo_289 5 rfl) rfl rfl
theorem r289_6 : Runs xs sl d 289 6 [l0, l1] [s0] H r ↔ Runs xs sl d 289 10 [l0, l1] [s0] H r := q_goto (mo_289 6 rfl) rfl
theorem r289_9 : Runs xs sl d 289 9 [l0, some (.int i1)] [] H r ↔ Runs xs sl d 289 10 [l0, some (.int i1)] [.int i1] H r := q_iload_n (mo_289 9 rfl) rfl rfl
theorem r289_10 : Runs xs sl d 289 10 [l0, l1] [.int u0] H r ↔ r = (some (.int u0), H) := q_iret (mo_289 10 rfl) mrt_289
theorem r290_0 : Runs xs sl d 290 0 [some (.int i0)] [] H r ↔ Runs xs sl d 290 1 [some (.int i0)] [.int i0] H r := q_iload_n (mo_290 0 rfl) rfl rfl
theorem r290_1 : Runs xs sl d 290 1 [l0] [.int u0] H r ↔ if 0 ≤ u0 then Runs xs sl d 290 9 [l0] [] H r else Runs xs sl d 290 4 [l0] [] H r := q_if_ge (mo_290 1 rfl) rfl rfl
theorem r290_4 : Runs xs sl d 290 4 [some (.int i0)] [] H r ↔ Runs xs sl d 290 5 [some (.int i0)] [.int i0] H r := q_iload_n (mo_290 4 rfl) rfl rfl
theorem r290_5 : Runs xs sl d 290 5 [l0] [.int u0] H r ↔ Runs xs sl d 290 6 [l0] [.int (-u0)] H r := q_ineg (mo_290 5 rfl) rfl
theorem r290_6 : Runs xs sl d 290 6 [l0] [s0] H r ↔ Runs xs sl d 290 10 [l0] [s0] H r := q_goto (mo_290 6 rfl) rfl
theorem r290_9 : Runs xs sl d 290 9 [some (.int i0)] [] H r ↔ Runs xs sl d 290 10 [some (.int i0)] [.int i0] H r := q_iload_n (mo_290 9 rfl) rfl rfl
theorem r290_10 : Runs xs sl d 290 10 [l0] [.int u0] H r ↔ r = (some (.int u0), H) := q_iret (mo_290 10 rfl) mrt_290
theorem r291_0 : Runs xs sl d 291 0 [l0, l1, l2, l3] [] H r ↔ Runs xs sl d 291 1 [l0, l1, l2, l3] [.int 0] H r := q_iconst (mo_291 0 rfl) rfl rfl
theorem r291_1 : Runs xs sl d 291 1 [l0, some (.int i1), l2, l3] [.int u0] H r ↔ Runs xs sl d 291 2 [l0, some (.int i1), some (.int u0), l3] [] H r := q_istore_n (mo_291 1 rfl) (Nat.le_of_ble_eq_true rfl) rfl rfl
theorem r291_2 : Runs xs sl d 291 2 [some (.ref a0), l1, l2, l3] [] H r ↔ Runs xs sl d 291 3 [some (.ref a0), l1, l2, l3] [.ref a0] H r := q_aload_n (mo_291 2 rfl) rfl rfl
theorem r291_2n : Runs xs sl d 291 2 [some .null, l1, l2, l3] [] H r ↔ Runs xs sl d 291 3 [some .null, l1, l2, l3] [.null] H r := q_aload_nN (mo_291 2 rfl) rfl rfl
theorem r291_3 : Runs xs sl d 291 3 [l0, l1, l2, l3] [.ref b0] H r ↔ ∃ v, hLen H b0 = some v ∧ Runs xs sl d 291 4 [l0, l1, l2, l3] [.int v] H r := run_alen (mo_291 3 rfl) rfl
theorem r291_4 : Runs xs sl d 291 4 [l0, l1, some (.int i2), l3] [.int u0] H r ↔ Runs xs sl d 291 5 [l0, l1, some (.int i2), some (.int u0)] [] H r := q_istore_n (mo_291 4 rfl) (Nat.le_of_ble_eq_true rfl) rfl rfl
theorem r291_5 : Runs xs sl d 291 5 [l0, l1, some (.int i2), l3] [] H r ↔ Runs xs sl d 291 6 [l0, l1, some (.int i2), l3] [.int i2] H r := q_iload_n (mo_291 5 rfl) rfl rfl
theorem r291_6 : Runs xs sl d 291 6 [l0, l1, l2, some (.int i3)] [s0] H r ↔ Runs xs sl d 291 7 [l0, l1, l2, some (.int i3)] [.int i3, s0] H r := q_iload_n (mo_291 6 rfl) rfl rfl
theorem r291_7 : Runs xs sl d 291 7 [l0, l1, l2, l3] [.int u1, .int u0] H r ↔ if u1 ≤ u0 then Runs xs sl d 291 20 [l0, l1, l2, l3] [] H r else Runs xs sl d 291 10 [l0, l1, l2, l3] [] H r := q_icmp_ge (mo_291 7 rfl) rfl rfl
theorem r291_10 : Runs xs sl d 291 10 [some (.ref a0), l1, l2, l3] [] H r ↔ Runs xs sl d 291 11 [some (.ref a0), l1, l2, l3] [.ref a0] H r := q_aload_n (mo_291 10 rfl) rfl rfl
theorem r291_10n : Runs xs sl d 291 10 [some .null, l1, l2, l3] [] H r ↔ Runs xs sl d 291 11 [some .null, l1, l2, l3] [.null] H r := q_aload_nN (mo_291 10 rfl) rfl rfl
theorem r291_11 : Runs xs sl d 291 11 [l0, l1, some (.int i2), l3] [s0] H r ↔ Runs xs sl d 291 12 [l0, l1, some (.int i2), l3] [.int i2, s0] H r := q_iload_n (mo_291 11 rfl) rfl rfl
theorem r291_12 : Runs xs sl d 291 12 [l0, some (.int i1), l2, l3] [s1, s0] H r ↔ Runs xs sl d 291 13 [l0, some (.int i1), l2, l3] [.int i1, s1, s0] H r := q_iload_n (mo_291 12 rfl) rfl rfl
theorem r291_13 : Runs xs sl d 291 13 [l0, l1, l2, l3] [.int u2, .int u1, .ref b0] H r ↔ ∃ H1, hAw H b0 0 u1 u2 = some H1 ∧ Runs xs sl d 291 14 [l0, l1, l2, l3] [] H1 r := run_iast (mo_291 13 rfl) rfl
theorem r291_14 : Runs xs sl d 291 14 [l0, some (.int i1), some (.int i2), l3] [] H r ↔ Runs xs sl d 291 17 [l0, some (.int i1), some (.int (i2 + 1)), l3] [] H r := q_iinc (mo_291 14 rfl) rfl (Nat.le_of_ble_eq_true rfl) rfl rfl
theorem r291_17 : Runs xs sl d 291 17 [l0, l1, l2, l3] [] H r ↔ Runs xs sl d 291 5 [l0, l1, l2, l3] [] H r := q_goto (mo_291 17 rfl) rfl
theorem r291_20 : Runs xs sl d 291 20 [l0, l1, l2, l3] [] H r ↔ r = (none, H) := q_ret (mo_291 20 rfl) mrt_291
theorem r292_0 : Runs xs sl d 292 0 [l0] [] H r ↔ r = (none, H) := q_ret (mo_292 0 rfl) mrt_292
end ROWS
