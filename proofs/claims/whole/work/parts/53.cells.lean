/-! EACH CELL read and written, printed by wip/whole/lay.py -/
section CELLS
variable {J : hJk} {s : hS} {g : hG}
theorem zC0 : hC (hp J s g) 0 = some 9 := hc_obj rfl
theorem zO0_0 : hO (hp J s g) 0 9 0 = some (.ref 1) := ho_ref rfl rfl
theorem zO0_1 : hO (hp J s g) 0 9 1 = some (.ref 31) := ho_ref rfl rfl
theorem zO0_2 : hO (hp J s g) 0 9 2 = some (.ref 32) := ho_ref rfl rfl
theorem zO0_3 : hO (hp J s g) 0 9 3 = some (.ref 47) := ho_ref rfl rfl
theorem zO0_4 : hO (hp J s g) 0 9 4 = some (.ref 65) := ho_ref rfl rfl
theorem zO0_5 : hO (hp J s g) 0 9 5 = some (.ref 70) := ho_ref rfl rfl
theorem zO0_6 : hO (hp J s g) 0 9 6 = some (.ref 73) := ho_ref rfl rfl
theorem zO0_7 : hO (hp J s g) 0 9 7 = some (.int (s 0 7)) := ho_int rfl rfl
theorem zW0_7 {v : Int32} : hOw (hp J s g) 0 9 7 (.int v) = some (hp J (va_up s 0 (va_up (s 0) 7 v)) g) := how_int rfl rfl
theorem zC1 : hC (hp J s g) 1 = some 7 := hc_obj rfl
theorem zO1_0 : hO (hp J s g) 1 7 0 = some (.ref 2) := ho_ref rfl rfl
theorem zO1_1 : hO (hp J s g) 1 7 1 = some (.ref 3) := ho_ref rfl rfl
theorem zO1_2 : hO (hp J s g) 1 7 2 = some (.ref 4) := ho_ref rfl rfl
theorem zO1_3 : hO (hp J s g) 1 7 3 = some (.ref 5) := ho_ref rfl rfl
theorem zO1_4 : hO (hp J s g) 1 7 4 = some (.ref 6) := ho_ref rfl rfl
theorem zO1_5 : hO (hp J s g) 1 7 5 = some (.int (s 1 5)) := ho_int rfl rfl
theorem zW1_5 {v : Int32} : hOw (hp J s g) 1 7 5 (.int v) = some (hp J (va_up s 1 (va_up (s 1) 5 v)) g) := how_int rfl rfl
theorem zO1_6 : hO (hp J s g) 1 7 6 = some (.int (s 1 6)) := ho_int rfl rfl
theorem zW1_6 {v : Int32} : hOw (hp J s g) 1 7 6 (.int v) = some (hp J (va_up s 1 (va_up (s 1) 6 v)) g) := how_int rfl rfl
theorem zO1_7 : hO (hp J s g) 1 7 7 = some (.int (s 1 7)) := ho_int rfl rfl
theorem zW1_7 {v : Int32} : hOw (hp J s g) 1 7 7 (.int v) = some (hp J (va_up s 1 (va_up (s 1) 7 v)) g) := how_int rfl rfl
theorem zQ2 {i : Nat} (h : i < 2) : hQ (hp J s g) 2 (nI i) = some (.ref (7 + 12 * i)) := hq_two rfl (by decide) h
theorem zQ3 {i : Nat} (h : i < 2) : hQ (hp J s g) 3 (nI i) = some (.ref (15 + 12 * i)) := hq_two rfl (by decide) h
theorem zQ4 {i : Nat} (h : i < 2) : hQ (hp J s g) 4 (nI i) = some (.ref (17 + 12 * i)) := hq_two rfl (by decide) h
theorem zL5 : hLen (hp J s g) 5 = some (nI 3) := hl_arr rfl (by decide)
theorem zA5 {i : Nat} (h : i < 3) : hA (hp J s g) 5 0 (nI i) = some (s 5 i) := ha_get rfl (by decide) h
theorem zS5 {i : Nat} {v : Int32} (h : i < 3) : hAw (hp J s g) 5 0 (nI i) v = some (hp J (va_up s 5 (va_up (s 5) i v)) g) := ha_set rfl (by decide) h
theorem zL6 : hLen (hp J s g) 6 = some (nI 600) := hl_arr rfl (by decide)
theorem zB6 {i : Nat} (h : i < 600) : hB (hp J s g) 6 (nI i) = some (s 6 i) := hb_get rfl (by decide) (by decide) h
theorem zT6 {i : Nat} {v : Int32} (h : i < 600) : hBw (hp J s g) 6 (nI i) v = some (hp J (va_up s 6 (va_up (s 6) i (vp_nar .byte v))) g) := hb_set1 rfl (by decide) h
theorem zC7 : hC (hp J s g) 7 = some 8 := hc_obj rfl
theorem zO7_0 : hO (hp J s g) 7 8 0 = some (.int (s 7 0)) := ho_int rfl rfl
theorem zW7_0 {v : Int32} : hOw (hp J s g) 7 8 0 (.int v) = some (hp J (va_up s 7 (va_up (s 7) 0 v)) g) := how_int rfl rfl
theorem zO7_1 : hO (hp J s g) 7 8 1 = some (.int (s 7 1)) := ho_int rfl rfl
theorem zW7_1 {v : Int32} : hOw (hp J s g) 7 8 1 (.int v) = some (hp J (va_up s 7 (va_up (s 7) 1 v)) g) := how_int rfl rfl
theorem zO7_2 : hO (hp J s g) 7 8 2 = some (.int (s 7 2)) := ho_int rfl rfl
theorem zW7_2 {v : Int32} : hOw (hp J s g) 7 8 2 (.int v) = some (hp J (va_up s 7 (va_up (s 7) 2 v)) g) := how_int rfl rfl
theorem zO7_3 : hO (hp J s g) 7 8 3 = some (.int (s 7 3)) := ho_int rfl rfl
theorem zW7_3 {v : Int32} : hOw (hp J s g) 7 8 3 (.int v) = some (hp J (va_up s 7 (va_up (s 7) 3 v)) g) := how_int rfl rfl
theorem zO7_4 : hO (hp J s g) 7 8 4 = some (.int (s 7 4)) := ho_int rfl rfl
theorem zW7_4 {v : Int32} : hOw (hp J s g) 7 8 4 (.int v) = some (hp J (va_up s 7 (va_up (s 7) 4 v)) g) := how_int rfl rfl
theorem zO7_5 : hO (hp J s g) 7 8 5 = some (.ref 8) := ho_ref rfl rfl
theorem zO7_6 : hO (hp J s g) 7 8 6 = some (.ref 9) := ho_ref rfl rfl
theorem zO7_7 : hO (hp J s g) 7 8 7 = some (.ref 10) := ho_ref rfl rfl
theorem zO7_8 : hO (hp J s g) 7 8 8 = some (.ref 11) := ho_ref rfl rfl
theorem zO7_9 : hO (hp J s g) 7 8 9 = some (.ref 12) := ho_ref rfl rfl
theorem zO7_10 : hO (hp J s g) 7 8 10 = some (.ref 13) := ho_ref rfl rfl
theorem zO7_11 : hO (hp J s g) 7 8 11 = some (.ref 14) := ho_ref rfl rfl
theorem zL8 : hLen (hp J s g) 8 = some (nI 8) := hl_arr rfl (by decide)
theorem zA8 {i : Nat} (h : i < 8) : hA (hp J s g) 8 0 (nI i) = some (s 8 i) := ha_get rfl (by decide) h
theorem zS8 {i : Nat} {v : Int32} (h : i < 8) : hAw (hp J s g) 8 0 (nI i) v = some (hp J (va_up s 8 (va_up (s 8) i v)) g) := ha_set rfl (by decide) h
theorem zL9 : hLen (hp J s g) 9 = some (nI 8) := hl_arr rfl (by decide)
theorem zA9 {i : Nat} (h : i < 8) : hA (hp J s g) 9 0 (nI i) = some (s 9 i) := ha_get rfl (by decide) h
theorem zS9 {i : Nat} {v : Int32} (h : i < 8) : hAw (hp J s g) 9 0 (nI i) v = some (hp J (va_up s 9 (va_up (s 9) i v)) g) := ha_set rfl (by decide) h
theorem zL10 : hLen (hp J s g) 10 = some (nI 8) := hl_arr rfl (by decide)
theorem zA10 {i : Nat} (h : i < 8) : hA (hp J s g) 10 0 (nI i) = some (s 10 i) := ha_get rfl (by decide) h
theorem zS10 {i : Nat} {v : Int32} (h : i < 8) : hAw (hp J s g) 10 0 (nI i) v = some (hp J (va_up s 10 (va_up (s 10) i v)) g) := ha_set rfl (by decide) h
theorem zL11 : hLen (hp J s g) 11 = some (nI 48) := hl_arr rfl (by decide)
theorem zA11 {i : Nat} (h : i < 48) : hA (hp J s g) 11 0 (nI i) = some (s 11 i) := ha_get rfl (by decide) h
theorem zS11 {i : Nat} {v : Int32} (h : i < 48) : hAw (hp J s g) 11 0 (nI i) v = some (hp J (va_up s 11 (va_up (s 11) i v)) g) := ha_set rfl (by decide) h
theorem zL12 : hLen (hp J s g) 12 = some (nI 36) := hl_arr rfl (by decide)
theorem zA12 {i : Nat} (h : i < 36) : hA (hp J s g) 12 0 (nI i) = some (s 12 i) := ha_get rfl (by decide) h
theorem zS12 {i : Nat} {v : Int32} (h : i < 36) : hAw (hp J s g) 12 0 (nI i) v = some (hp J (va_up s 12 (va_up (s 12) i v)) g) := ha_set rfl (by decide) h
theorem zL13 : hLen (hp J s g) 13 = some (nI 8) := hl_arr rfl (by decide)
theorem zA13 {i : Nat} (h : i < 8) : hA (hp J s g) 13 0 (nI i) = some (s 13 i) := ha_get rfl (by decide) h
theorem zS13 {i : Nat} {v : Int32} (h : i < 8) : hAw (hp J s g) 13 0 (nI i) v = some (hp J (va_up s 13 (va_up (s 13) i v)) g) := ha_set rfl (by decide) h
theorem zL14 : hLen (hp J s g) 14 = some (nI 8) := hl_arr rfl (by decide)
theorem zA14 {i : Nat} (h : i < 8) : hA (hp J s g) 14 0 (nI i) = some (s 14 i) := ha_get rfl (by decide) h
theorem zS14 {i : Nat} {v : Int32} (h : i < 8) : hAw (hp J s g) 14 0 (nI i) v = some (hp J (va_up s 14 (va_up (s 14) i v)) g) := ha_set rfl (by decide) h
theorem zC15 : hC (hp J s g) 15 = some 0 := hc_obj rfl
theorem zO15_0 : hO (hp J s g) 15 0 0 = some (.int (s 15 0)) := ho_int rfl rfl
theorem zW15_0 {v : Int32} : hOw (hp J s g) 15 0 0 (.int v) = some (hp J (va_up s 15 (va_up (s 15) 0 v)) g) := how_int rfl rfl
theorem zO15_1 : hO (hp J s g) 15 0 1 = some (.ref 16) := ho_ref rfl rfl
theorem zL16 : hLen (hp J s g) 16 = some (nI 160) := hl_arr rfl (by decide)
theorem zA16 {i : Nat} (h : i < 160) : hA (hp J s g) 16 0 (nI i) = some (s 16 i) := ha_get rfl (by decide) h
theorem zS16 {i : Nat} {v : Int32} (h : i < 160) : hAw (hp J s g) 16 0 (nI i) v = some (hp J (va_up s 16 (va_up (s 16) i v)) g) := ha_set rfl (by decide) h
theorem zC17 : hC (hp J s g) 17 = some 4 := hc_obj rfl
theorem zO17_0 : hO (hp J s g) 17 4 0 = some (.int (s 17 0)) := ho_int rfl rfl
theorem zW17_0 {v : Int32} : hOw (hp J s g) 17 4 0 (.int v) = some (hp J (va_up s 17 (va_up (s 17) 0 v)) g) := how_int rfl rfl
theorem zO17_1 : hO (hp J s g) 17 4 1 = some (.int (s 17 1)) := ho_int rfl rfl
theorem zW17_1 {v : Int32} : hOw (hp J s g) 17 4 1 (.int v) = some (hp J (va_up s 17 (va_up (s 17) 1 v)) g) := how_int rfl rfl
theorem zO17_2 : hO (hp J s g) 17 4 2 = some (.int (s 17 2)) := ho_int rfl rfl
theorem zW17_2 {v : Int32} : hOw (hp J s g) 17 4 2 (.int v) = some (hp J (va_up s 17 (va_up (s 17) 2 v)) g) := how_int rfl rfl
theorem zO17_3 : hO (hp J s g) 17 4 3 = some (.ref 18) := ho_ref rfl rfl
theorem zL18 : hLen (hp J s g) 18 = some (nI 36) := hl_arr rfl (by decide)
theorem zA18 {i : Nat} (h : i < 36) : hA (hp J s g) 18 0 (nI i) = some (s 18 i) := ha_get rfl (by decide) h
theorem zS18 {i : Nat} {v : Int32} (h : i < 36) : hAw (hp J s g) 18 0 (nI i) v = some (hp J (va_up s 18 (va_up (s 18) i v)) g) := ha_set rfl (by decide) h
theorem zC19 : hC (hp J s g) 19 = some 8 := hc_obj rfl
theorem zO19_0 : hO (hp J s g) 19 8 0 = some (.int (s 19 0)) := ho_int rfl rfl
theorem zW19_0 {v : Int32} : hOw (hp J s g) 19 8 0 (.int v) = some (hp J (va_up s 19 (va_up (s 19) 0 v)) g) := how_int rfl rfl
theorem zO19_1 : hO (hp J s g) 19 8 1 = some (.int (s 19 1)) := ho_int rfl rfl
theorem zW19_1 {v : Int32} : hOw (hp J s g) 19 8 1 (.int v) = some (hp J (va_up s 19 (va_up (s 19) 1 v)) g) := how_int rfl rfl
theorem zO19_2 : hO (hp J s g) 19 8 2 = some (.int (s 19 2)) := ho_int rfl rfl
theorem zW19_2 {v : Int32} : hOw (hp J s g) 19 8 2 (.int v) = some (hp J (va_up s 19 (va_up (s 19) 2 v)) g) := how_int rfl rfl
theorem zO19_3 : hO (hp J s g) 19 8 3 = some (.int (s 19 3)) := ho_int rfl rfl
theorem zW19_3 {v : Int32} : hOw (hp J s g) 19 8 3 (.int v) = some (hp J (va_up s 19 (va_up (s 19) 3 v)) g) := how_int rfl rfl
theorem zO19_4 : hO (hp J s g) 19 8 4 = some (.int (s 19 4)) := ho_int rfl rfl
theorem zW19_4 {v : Int32} : hOw (hp J s g) 19 8 4 (.int v) = some (hp J (va_up s 19 (va_up (s 19) 4 v)) g) := how_int rfl rfl
theorem zO19_5 : hO (hp J s g) 19 8 5 = some (.ref 20) := ho_ref rfl rfl
theorem zO19_6 : hO (hp J s g) 19 8 6 = some (.ref 21) := ho_ref rfl rfl
theorem zO19_7 : hO (hp J s g) 19 8 7 = some (.ref 22) := ho_ref rfl rfl
theorem zO19_8 : hO (hp J s g) 19 8 8 = some (.ref 23) := ho_ref rfl rfl
theorem zO19_9 : hO (hp J s g) 19 8 9 = some (.ref 24) := ho_ref rfl rfl
theorem zO19_10 : hO (hp J s g) 19 8 10 = some (.ref 25) := ho_ref rfl rfl
theorem zO19_11 : hO (hp J s g) 19 8 11 = some (.ref 26) := ho_ref rfl rfl
theorem zL20 : hLen (hp J s g) 20 = some (nI 8) := hl_arr rfl (by decide)
theorem zA20 {i : Nat} (h : i < 8) : hA (hp J s g) 20 0 (nI i) = some (s 20 i) := ha_get rfl (by decide) h
theorem zS20 {i : Nat} {v : Int32} (h : i < 8) : hAw (hp J s g) 20 0 (nI i) v = some (hp J (va_up s 20 (va_up (s 20) i v)) g) := ha_set rfl (by decide) h
theorem zL21 : hLen (hp J s g) 21 = some (nI 8) := hl_arr rfl (by decide)
theorem zA21 {i : Nat} (h : i < 8) : hA (hp J s g) 21 0 (nI i) = some (s 21 i) := ha_get rfl (by decide) h
theorem zS21 {i : Nat} {v : Int32} (h : i < 8) : hAw (hp J s g) 21 0 (nI i) v = some (hp J (va_up s 21 (va_up (s 21) i v)) g) := ha_set rfl (by decide) h
theorem zL22 : hLen (hp J s g) 22 = some (nI 8) := hl_arr rfl (by decide)
theorem zA22 {i : Nat} (h : i < 8) : hA (hp J s g) 22 0 (nI i) = some (s 22 i) := ha_get rfl (by decide) h
theorem zS22 {i : Nat} {v : Int32} (h : i < 8) : hAw (hp J s g) 22 0 (nI i) v = some (hp J (va_up s 22 (va_up (s 22) i v)) g) := ha_set rfl (by decide) h
theorem zL23 : hLen (hp J s g) 23 = some (nI 48) := hl_arr rfl (by decide)
theorem zA23 {i : Nat} (h : i < 48) : hA (hp J s g) 23 0 (nI i) = some (s 23 i) := ha_get rfl (by decide) h
theorem zS23 {i : Nat} {v : Int32} (h : i < 48) : hAw (hp J s g) 23 0 (nI i) v = some (hp J (va_up s 23 (va_up (s 23) i v)) g) := ha_set rfl (by decide) h
theorem zL24 : hLen (hp J s g) 24 = some (nI 36) := hl_arr rfl (by decide)
theorem zA24 {i : Nat} (h : i < 36) : hA (hp J s g) 24 0 (nI i) = some (s 24 i) := ha_get rfl (by decide) h
theorem zS24 {i : Nat} {v : Int32} (h : i < 36) : hAw (hp J s g) 24 0 (nI i) v = some (hp J (va_up s 24 (va_up (s 24) i v)) g) := ha_set rfl (by decide) h
theorem zL25 : hLen (hp J s g) 25 = some (nI 8) := hl_arr rfl (by decide)
theorem zA25 {i : Nat} (h : i < 8) : hA (hp J s g) 25 0 (nI i) = some (s 25 i) := ha_get rfl (by decide) h
theorem zS25 {i : Nat} {v : Int32} (h : i < 8) : hAw (hp J s g) 25 0 (nI i) v = some (hp J (va_up s 25 (va_up (s 25) i v)) g) := ha_set rfl (by decide) h
theorem zL26 : hLen (hp J s g) 26 = some (nI 8) := hl_arr rfl (by decide)
theorem zA26 {i : Nat} (h : i < 8) : hA (hp J s g) 26 0 (nI i) = some (s 26 i) := ha_get rfl (by decide) h
theorem zS26 {i : Nat} {v : Int32} (h : i < 8) : hAw (hp J s g) 26 0 (nI i) v = some (hp J (va_up s 26 (va_up (s 26) i v)) g) := ha_set rfl (by decide) h
theorem zC27 : hC (hp J s g) 27 = some 0 := hc_obj rfl
theorem zO27_0 : hO (hp J s g) 27 0 0 = some (.int (s 27 0)) := ho_int rfl rfl
theorem zW27_0 {v : Int32} : hOw (hp J s g) 27 0 0 (.int v) = some (hp J (va_up s 27 (va_up (s 27) 0 v)) g) := how_int rfl rfl
theorem zO27_1 : hO (hp J s g) 27 0 1 = some (.ref 28) := ho_ref rfl rfl
theorem zL28 : hLen (hp J s g) 28 = some (nI 160) := hl_arr rfl (by decide)
theorem zA28 {i : Nat} (h : i < 160) : hA (hp J s g) 28 0 (nI i) = some (s 28 i) := ha_get rfl (by decide) h
theorem zS28 {i : Nat} {v : Int32} (h : i < 160) : hAw (hp J s g) 28 0 (nI i) v = some (hp J (va_up s 28 (va_up (s 28) i v)) g) := ha_set rfl (by decide) h
theorem zC29 : hC (hp J s g) 29 = some 4 := hc_obj rfl
theorem zO29_0 : hO (hp J s g) 29 4 0 = some (.int (s 29 0)) := ho_int rfl rfl
theorem zW29_0 {v : Int32} : hOw (hp J s g) 29 4 0 (.int v) = some (hp J (va_up s 29 (va_up (s 29) 0 v)) g) := how_int rfl rfl
theorem zO29_1 : hO (hp J s g) 29 4 1 = some (.int (s 29 1)) := ho_int rfl rfl
theorem zW29_1 {v : Int32} : hOw (hp J s g) 29 4 1 (.int v) = some (hp J (va_up s 29 (va_up (s 29) 1 v)) g) := how_int rfl rfl
theorem zO29_2 : hO (hp J s g) 29 4 2 = some (.int (s 29 2)) := ho_int rfl rfl
theorem zW29_2 {v : Int32} : hOw (hp J s g) 29 4 2 (.int v) = some (hp J (va_up s 29 (va_up (s 29) 2 v)) g) := how_int rfl rfl
theorem zO29_3 : hO (hp J s g) 29 4 3 = some (.ref 30) := ho_ref rfl rfl
theorem zL30 : hLen (hp J s g) 30 = some (nI 36) := hl_arr rfl (by decide)
theorem zA30 {i : Nat} (h : i < 36) : hA (hp J s g) 30 0 (nI i) = some (s 30 i) := ha_get rfl (by decide) h
theorem zS30 {i : Nat} {v : Int32} (h : i < 36) : hAw (hp J s g) 30 0 (nI i) v = some (hp J (va_up s 30 (va_up (s 30) i v)) g) := ha_set rfl (by decide) h
theorem zC32 : hC (hp J s g) 32 = some 5 := hc_obj rfl
theorem zO32_0 : hO (hp J s g) 32 5 0 = some (.ref 33) := ho_ref rfl rfl
theorem zO32_1 : hO (hp J s g) 32 5 1 = some (.ref 41) := ho_ref rfl rfl
theorem zO32_2 : hO (hp J s g) 32 5 2 = some (.ref 43) := ho_ref rfl rfl
theorem zO32_3 : hO (hp J s g) 32 5 3 = some (.int (s 32 3)) := ho_int rfl rfl
theorem zW32_3 {v : Int32} : hOw (hp J s g) 32 5 3 (.int v) = some (hp J (va_up s 32 (va_up (s 32) 3 v)) g) := how_int rfl rfl
theorem zO32_4 : hO (hp J s g) 32 5 4 = some (.int (s 32 4)) := ho_int rfl rfl
theorem zW32_4 {v : Int32} : hOw (hp J s g) 32 5 4 (.int v) = some (hp J (va_up s 32 (va_up (s 32) 4 v)) g) := how_int rfl rfl
theorem zO32_5 : hO (hp J s g) 32 5 5 = some (.ref 45) := ho_ref rfl rfl
theorem zO32_6 : hO (hp J s g) 32 5 6 = some (.ref (s 32 6).toNatClampNeg) := ho_dyn rfl rfl
theorem zW32_6 {x : Nat} (hx : x < 2 ^ 31) : hOw (hp J s g) 32 5 6 (.ref x) = some (hp J (va_up s 32 (va_up (s 32) 6 (nI x))) g) := how_dyn rfl rfl hx
theorem zO32_7 : hO (hp J s g) 32 5 7 = some (.int (s 32 7)) := ho_int rfl rfl
theorem zW32_7 {v : Int32} : hOw (hp J s g) 32 5 7 (.int v) = some (hp J (va_up s 32 (va_up (s 32) 7 v)) g) := how_int rfl rfl
theorem zO32_8 : hO (hp J s g) 32 5 8 = some (.int (s 32 8)) := ho_int rfl rfl
theorem zW32_8 {v : Int32} : hOw (hp J s g) 32 5 8 (.int v) = some (hp J (va_up s 32 (va_up (s 32) 8 v)) g) := how_int rfl rfl
theorem zO32_9 : hO (hp J s g) 32 5 9 = some (.int (s 32 9)) := ho_int rfl rfl
theorem zW32_9 {v : Int32} : hOw (hp J s g) 32 5 9 (.int v) = some (hp J (va_up s 32 (va_up (s 32) 9 v)) g) := how_int rfl rfl
theorem zO32_10 : hO (hp J s g) 32 5 10 = some (.int (s 32 10)) := ho_int rfl rfl
theorem zW32_10 {v : Int32} : hOw (hp J s g) 32 5 10 (.int v) = some (hp J (va_up s 32 (va_up (s 32) 10 v)) g) := how_int rfl rfl
theorem zO32_11 : hO (hp J s g) 32 5 11 = some (.int (s 32 11)) := ho_int rfl rfl
theorem zW32_11 {v : Int32} : hOw (hp J s g) 32 5 11 (.int v) = some (hp J (va_up s 32 (va_up (s 32) 11 v)) g) := how_int rfl rfl
theorem zO32_12 : hO (hp J s g) 32 5 12 = some (.int (s 32 12)) := ho_int rfl rfl
theorem zW32_12 {v : Int32} : hOw (hp J s g) 32 5 12 (.int v) = some (hp J (va_up s 32 (va_up (s 32) 12 v)) g) := how_int rfl rfl
theorem zO32_13 : hO (hp J s g) 32 5 13 = some (.int (s 32 13)) := ho_int rfl rfl
theorem zW32_13 {v : Int32} : hOw (hp J s g) 32 5 13 (.int v) = some (hp J (va_up s 32 (va_up (s 32) 13 v)) g) := how_int rfl rfl
theorem zO32_14 : hO (hp J s g) 32 5 14 = some (.int (s 32 14)) := ho_int rfl rfl
theorem zW32_14 {v : Int32} : hOw (hp J s g) 32 5 14 (.int v) = some (hp J (va_up s 32 (va_up (s 32) 14 v)) g) := how_int rfl rfl
theorem zC33 : hC (hp J s g) 33 = some 8 := hc_obj rfl
theorem zO33_0 : hO (hp J s g) 33 8 0 = some (.int (s 33 0)) := ho_int rfl rfl
theorem zW33_0 {v : Int32} : hOw (hp J s g) 33 8 0 (.int v) = some (hp J (va_up s 33 (va_up (s 33) 0 v)) g) := how_int rfl rfl
theorem zO33_1 : hO (hp J s g) 33 8 1 = some (.int (s 33 1)) := ho_int rfl rfl
theorem zW33_1 {v : Int32} : hOw (hp J s g) 33 8 1 (.int v) = some (hp J (va_up s 33 (va_up (s 33) 1 v)) g) := how_int rfl rfl
theorem zO33_2 : hO (hp J s g) 33 8 2 = some (.int (s 33 2)) := ho_int rfl rfl
theorem zW33_2 {v : Int32} : hOw (hp J s g) 33 8 2 (.int v) = some (hp J (va_up s 33 (va_up (s 33) 2 v)) g) := how_int rfl rfl
theorem zO33_3 : hO (hp J s g) 33 8 3 = some (.int (s 33 3)) := ho_int rfl rfl
theorem zW33_3 {v : Int32} : hOw (hp J s g) 33 8 3 (.int v) = some (hp J (va_up s 33 (va_up (s 33) 3 v)) g) := how_int rfl rfl
theorem zO33_4 : hO (hp J s g) 33 8 4 = some (.int (s 33 4)) := ho_int rfl rfl
theorem zW33_4 {v : Int32} : hOw (hp J s g) 33 8 4 (.int v) = some (hp J (va_up s 33 (va_up (s 33) 4 v)) g) := how_int rfl rfl
theorem zO33_5 : hO (hp J s g) 33 8 5 = some (.ref 34) := ho_ref rfl rfl
theorem zO33_6 : hO (hp J s g) 33 8 6 = some (.ref 35) := ho_ref rfl rfl
theorem zO33_7 : hO (hp J s g) 33 8 7 = some (.ref 36) := ho_ref rfl rfl
theorem zO33_8 : hO (hp J s g) 33 8 8 = some (.ref 37) := ho_ref rfl rfl
theorem zO33_9 : hO (hp J s g) 33 8 9 = some (.ref 38) := ho_ref rfl rfl
theorem zO33_10 : hO (hp J s g) 33 8 10 = some (.ref 39) := ho_ref rfl rfl
theorem zO33_11 : hO (hp J s g) 33 8 11 = some (.ref 40) := ho_ref rfl rfl
theorem zL34 : hLen (hp J s g) 34 = some (nI 8) := hl_arr rfl (by decide)
theorem zA34 {i : Nat} (h : i < 8) : hA (hp J s g) 34 0 (nI i) = some (s 34 i) := ha_get rfl (by decide) h
theorem zS34 {i : Nat} {v : Int32} (h : i < 8) : hAw (hp J s g) 34 0 (nI i) v = some (hp J (va_up s 34 (va_up (s 34) i v)) g) := ha_set rfl (by decide) h
theorem zL35 : hLen (hp J s g) 35 = some (nI 8) := hl_arr rfl (by decide)
theorem zA35 {i : Nat} (h : i < 8) : hA (hp J s g) 35 0 (nI i) = some (s 35 i) := ha_get rfl (by decide) h
theorem zS35 {i : Nat} {v : Int32} (h : i < 8) : hAw (hp J s g) 35 0 (nI i) v = some (hp J (va_up s 35 (va_up (s 35) i v)) g) := ha_set rfl (by decide) h
theorem zL36 : hLen (hp J s g) 36 = some (nI 8) := hl_arr rfl (by decide)
theorem zA36 {i : Nat} (h : i < 8) : hA (hp J s g) 36 0 (nI i) = some (s 36 i) := ha_get rfl (by decide) h
theorem zS36 {i : Nat} {v : Int32} (h : i < 8) : hAw (hp J s g) 36 0 (nI i) v = some (hp J (va_up s 36 (va_up (s 36) i v)) g) := ha_set rfl (by decide) h
theorem zL37 : hLen (hp J s g) 37 = some (nI 48) := hl_arr rfl (by decide)
theorem zA37 {i : Nat} (h : i < 48) : hA (hp J s g) 37 0 (nI i) = some (s 37 i) := ha_get rfl (by decide) h
theorem zS37 {i : Nat} {v : Int32} (h : i < 48) : hAw (hp J s g) 37 0 (nI i) v = some (hp J (va_up s 37 (va_up (s 37) i v)) g) := ha_set rfl (by decide) h
theorem zL38 : hLen (hp J s g) 38 = some (nI 36) := hl_arr rfl (by decide)
theorem zA38 {i : Nat} (h : i < 36) : hA (hp J s g) 38 0 (nI i) = some (s 38 i) := ha_get rfl (by decide) h
theorem zS38 {i : Nat} {v : Int32} (h : i < 36) : hAw (hp J s g) 38 0 (nI i) v = some (hp J (va_up s 38 (va_up (s 38) i v)) g) := ha_set rfl (by decide) h
theorem zL39 : hLen (hp J s g) 39 = some (nI 8) := hl_arr rfl (by decide)
theorem zA39 {i : Nat} (h : i < 8) : hA (hp J s g) 39 0 (nI i) = some (s 39 i) := ha_get rfl (by decide) h
theorem zS39 {i : Nat} {v : Int32} (h : i < 8) : hAw (hp J s g) 39 0 (nI i) v = some (hp J (va_up s 39 (va_up (s 39) i v)) g) := ha_set rfl (by decide) h
theorem zL40 : hLen (hp J s g) 40 = some (nI 8) := hl_arr rfl (by decide)
theorem zA40 {i : Nat} (h : i < 8) : hA (hp J s g) 40 0 (nI i) = some (s 40 i) := ha_get rfl (by decide) h
theorem zS40 {i : Nat} {v : Int32} (h : i < 8) : hAw (hp J s g) 40 0 (nI i) v = some (hp J (va_up s 40 (va_up (s 40) i v)) g) := ha_set rfl (by decide) h
theorem zC41 : hC (hp J s g) 41 = some 0 := hc_obj rfl
theorem zO41_0 : hO (hp J s g) 41 0 0 = some (.int (s 41 0)) := ho_int rfl rfl
theorem zW41_0 {v : Int32} : hOw (hp J s g) 41 0 0 (.int v) = some (hp J (va_up s 41 (va_up (s 41) 0 v)) g) := how_int rfl rfl
theorem zO41_1 : hO (hp J s g) 41 0 1 = some (.ref 42) := ho_ref rfl rfl
theorem zL42 : hLen (hp J s g) 42 = some (nI 160) := hl_arr rfl (by decide)
theorem zA42 {i : Nat} (h : i < 160) : hA (hp J s g) 42 0 (nI i) = some (s 42 i) := ha_get rfl (by decide) h
theorem zS42 {i : Nat} {v : Int32} (h : i < 160) : hAw (hp J s g) 42 0 (nI i) v = some (hp J (va_up s 42 (va_up (s 42) i v)) g) := ha_set rfl (by decide) h
theorem zC43 : hC (hp J s g) 43 = some 4 := hc_obj rfl
theorem zO43_0 : hO (hp J s g) 43 4 0 = some (.int (s 43 0)) := ho_int rfl rfl
theorem zW43_0 {v : Int32} : hOw (hp J s g) 43 4 0 (.int v) = some (hp J (va_up s 43 (va_up (s 43) 0 v)) g) := how_int rfl rfl
theorem zO43_1 : hO (hp J s g) 43 4 1 = some (.int (s 43 1)) := ho_int rfl rfl
theorem zW43_1 {v : Int32} : hOw (hp J s g) 43 4 1 (.int v) = some (hp J (va_up s 43 (va_up (s 43) 1 v)) g) := how_int rfl rfl
theorem zO43_2 : hO (hp J s g) 43 4 2 = some (.int (s 43 2)) := ho_int rfl rfl
theorem zW43_2 {v : Int32} : hOw (hp J s g) 43 4 2 (.int v) = some (hp J (va_up s 43 (va_up (s 43) 2 v)) g) := how_int rfl rfl
theorem zO43_3 : hO (hp J s g) 43 4 3 = some (.ref 44) := ho_ref rfl rfl
theorem zL44 : hLen (hp J s g) 44 = some (nI 36) := hl_arr rfl (by decide)
theorem zA44 {i : Nat} (h : i < 36) : hA (hp J s g) 44 0 (nI i) = some (s 44 i) := ha_get rfl (by decide) h
theorem zS44 {i : Nat} {v : Int32} (h : i < 36) : hAw (hp J s g) 44 0 (nI i) v = some (hp J (va_up s 44 (va_up (s 44) i v)) g) := ha_set rfl (by decide) h
theorem zL45 : hLen (hp J s g) 45 = some (nI 4) := hl_arr rfl (by decide)
theorem zA45 {i : Nat} (h : i < 4) : hA (hp J s g) 45 0 (nI i) = some (s 45 i) := ha_get rfl (by decide) h
theorem zS45 {i : Nat} {v : Int32} (h : i < 4) : hAw (hp J s g) 45 0 (nI i) v = some (hp J (va_up s 45 (va_up (s 45) i v)) g) := ha_set rfl (by decide) h
theorem zC47 : hC (hp J s g) 47 = some 6 := hc_obj rfl
theorem zO47_0 : hO (hp J s g) 47 6 0 = some (.ref (s 47 0).toNatClampNeg) := ho_dyn rfl rfl
theorem zW47_0 {x : Nat} (hx : x < 2 ^ 31) : hOw (hp J s g) 47 6 0 (.ref x) = some (hp J (va_up s 47 (va_up (s 47) 0 (nI x))) g) := how_dyn rfl rfl hx
theorem zO47_1 : hO (hp J s g) 47 6 1 = some (.int (s 47 1)) := ho_int rfl rfl
theorem zW47_1 {v : Int32} : hOw (hp J s g) 47 6 1 (.int v) = some (hp J (va_up s 47 (va_up (s 47) 1 v)) g) := how_int rfl rfl
theorem zO47_2 : hO (hp J s g) 47 6 2 = some (.ref 56) := ho_ref rfl rfl
theorem zO47_3 : hO (hp J s g) 47 6 3 = some (.ref 57) := ho_ref rfl rfl
theorem zO47_4 : hO (hp J s g) 47 6 4 = some (.int (s 47 4)) := ho_int rfl rfl
theorem zW47_4 {v : Int32} : hOw (hp J s g) 47 6 4 (.int v) = some (hp J (va_up s 47 (va_up (s 47) 4 v)) g) := how_int rfl rfl
theorem zO47_5 : hO (hp J s g) 47 6 5 = some (.ref 58) := ho_ref rfl rfl
theorem zO47_6 : hO (hp J s g) 47 6 6 = some (.ref 59) := ho_ref rfl rfl
theorem zO47_7 : hO (hp J s g) 47 6 7 = some (.ref 60) := ho_ref rfl rfl
theorem zO47_8 : hO (hp J s g) 47 6 8 = some (.ref 61) := ho_ref rfl rfl
theorem zO47_9 : hO (hp J s g) 47 6 9 = some (.ref 62) := ho_ref rfl rfl
theorem zO47_10 : hO (hp J s g) 47 6 10 = some (.ref 63) := ho_ref rfl rfl
theorem zO47_11 : hO (hp J s g) 47 6 11 = some (.ref 64) := ho_ref rfl rfl
theorem zC48 : hC (hp J s g) 48 = some 8 := hc_obj rfl
theorem zO48_0 : hO (hp J s g) 48 8 0 = some (.int (s 48 0)) := ho_int rfl rfl
theorem zW48_0 {v : Int32} : hOw (hp J s g) 48 8 0 (.int v) = some (hp J (va_up s 48 (va_up (s 48) 0 v)) g) := how_int rfl rfl
theorem zO48_1 : hO (hp J s g) 48 8 1 = some (.int (s 48 1)) := ho_int rfl rfl
theorem zW48_1 {v : Int32} : hOw (hp J s g) 48 8 1 (.int v) = some (hp J (va_up s 48 (va_up (s 48) 1 v)) g) := how_int rfl rfl
theorem zO48_2 : hO (hp J s g) 48 8 2 = some (.int (s 48 2)) := ho_int rfl rfl
theorem zW48_2 {v : Int32} : hOw (hp J s g) 48 8 2 (.int v) = some (hp J (va_up s 48 (va_up (s 48) 2 v)) g) := how_int rfl rfl
theorem zO48_3 : hO (hp J s g) 48 8 3 = some (.int (s 48 3)) := ho_int rfl rfl
theorem zW48_3 {v : Int32} : hOw (hp J s g) 48 8 3 (.int v) = some (hp J (va_up s 48 (va_up (s 48) 3 v)) g) := how_int rfl rfl
theorem zO48_4 : hO (hp J s g) 48 8 4 = some (.int (s 48 4)) := ho_int rfl rfl
theorem zW48_4 {v : Int32} : hOw (hp J s g) 48 8 4 (.int v) = some (hp J (va_up s 48 (va_up (s 48) 4 v)) g) := how_int rfl rfl
theorem zO48_5 : hO (hp J s g) 48 8 5 = some (.ref 49) := ho_ref rfl rfl
theorem zO48_6 : hO (hp J s g) 48 8 6 = some (.ref 50) := ho_ref rfl rfl
theorem zO48_7 : hO (hp J s g) 48 8 7 = some (.ref 51) := ho_ref rfl rfl
theorem zO48_8 : hO (hp J s g) 48 8 8 = some (.ref 52) := ho_ref rfl rfl
theorem zO48_9 : hO (hp J s g) 48 8 9 = some (.ref 53) := ho_ref rfl rfl
theorem zO48_10 : hO (hp J s g) 48 8 10 = some (.ref 54) := ho_ref rfl rfl
theorem zO48_11 : hO (hp J s g) 48 8 11 = some (.ref 55) := ho_ref rfl rfl
theorem zL49 : hLen (hp J s g) 49 = some (nI 8) := hl_arr rfl (by decide)
theorem zA49 {i : Nat} (h : i < 8) : hA (hp J s g) 49 0 (nI i) = some (s 49 i) := ha_get rfl (by decide) h
theorem zS49 {i : Nat} {v : Int32} (h : i < 8) : hAw (hp J s g) 49 0 (nI i) v = some (hp J (va_up s 49 (va_up (s 49) i v)) g) := ha_set rfl (by decide) h
theorem zL50 : hLen (hp J s g) 50 = some (nI 8) := hl_arr rfl (by decide)
theorem zA50 {i : Nat} (h : i < 8) : hA (hp J s g) 50 0 (nI i) = some (s 50 i) := ha_get rfl (by decide) h
theorem zS50 {i : Nat} {v : Int32} (h : i < 8) : hAw (hp J s g) 50 0 (nI i) v = some (hp J (va_up s 50 (va_up (s 50) i v)) g) := ha_set rfl (by decide) h
theorem zL51 : hLen (hp J s g) 51 = some (nI 8) := hl_arr rfl (by decide)
theorem zA51 {i : Nat} (h : i < 8) : hA (hp J s g) 51 0 (nI i) = some (s 51 i) := ha_get rfl (by decide) h
theorem zS51 {i : Nat} {v : Int32} (h : i < 8) : hAw (hp J s g) 51 0 (nI i) v = some (hp J (va_up s 51 (va_up (s 51) i v)) g) := ha_set rfl (by decide) h
theorem zL52 : hLen (hp J s g) 52 = some (nI 48) := hl_arr rfl (by decide)
theorem zA52 {i : Nat} (h : i < 48) : hA (hp J s g) 52 0 (nI i) = some (s 52 i) := ha_get rfl (by decide) h
theorem zS52 {i : Nat} {v : Int32} (h : i < 48) : hAw (hp J s g) 52 0 (nI i) v = some (hp J (va_up s 52 (va_up (s 52) i v)) g) := ha_set rfl (by decide) h
theorem zL53 : hLen (hp J s g) 53 = some (nI 36) := hl_arr rfl (by decide)
theorem zA53 {i : Nat} (h : i < 36) : hA (hp J s g) 53 0 (nI i) = some (s 53 i) := ha_get rfl (by decide) h
theorem zS53 {i : Nat} {v : Int32} (h : i < 36) : hAw (hp J s g) 53 0 (nI i) v = some (hp J (va_up s 53 (va_up (s 53) i v)) g) := ha_set rfl (by decide) h
theorem zL54 : hLen (hp J s g) 54 = some (nI 8) := hl_arr rfl (by decide)
theorem zA54 {i : Nat} (h : i < 8) : hA (hp J s g) 54 0 (nI i) = some (s 54 i) := ha_get rfl (by decide) h
theorem zS54 {i : Nat} {v : Int32} (h : i < 8) : hAw (hp J s g) 54 0 (nI i) v = some (hp J (va_up s 54 (va_up (s 54) i v)) g) := ha_set rfl (by decide) h
theorem zL55 : hLen (hp J s g) 55 = some (nI 8) := hl_arr rfl (by decide)
theorem zA55 {i : Nat} (h : i < 8) : hA (hp J s g) 55 0 (nI i) = some (s 55 i) := ha_get rfl (by decide) h
theorem zS55 {i : Nat} {v : Int32} (h : i < 8) : hAw (hp J s g) 55 0 (nI i) v = some (hp J (va_up s 55 (va_up (s 55) i v)) g) := ha_set rfl (by decide) h
theorem zL56 : hLen (hp J s g) 56 = some (nI 48) := hl_arr rfl (by decide)
theorem zA56 {i : Nat} (h : i < 48) : hA (hp J s g) 56 0 (nI i) = some (s 56 i) := ha_get rfl (by decide) h
theorem zS56 {i : Nat} {v : Int32} (h : i < 48) : hAw (hp J s g) 56 0 (nI i) v = some (hp J (va_up s 56 (va_up (s 56) i v)) g) := ha_set rfl (by decide) h
theorem zL57 : hLen (hp J s g) 57 = some (nI 96) := hl_arr rfl (by decide)
theorem zA57 {i : Nat} (h : i < 96) : hA (hp J s g) 57 0 (nI i) = some (s 57 i) := ha_get rfl (by decide) h
theorem zS57 {i : Nat} {v : Int32} (h : i < 96) : hAw (hp J s g) 57 0 (nI i) v = some (hp J (va_up s 57 (va_up (s 57) i v)) g) := ha_set rfl (by decide) h
theorem zL58 : hLen (hp J s g) 58 = some (nI 16) := hl_arr rfl (by decide)
theorem zA58 {i : Nat} (h : i < 16) : hA (hp J s g) 58 0 (nI i) = some (s 58 i) := ha_get rfl (by decide) h
theorem zS58 {i : Nat} {v : Int32} (h : i < 16) : hAw (hp J s g) 58 0 (nI i) v = some (hp J (va_up s 58 (va_up (s 58) i v)) g) := ha_set rfl (by decide) h
theorem zL59 : hLen (hp J s g) 59 = some (nI 16) := hl_arr rfl (by decide)
theorem zA59 {i : Nat} (h : i < 16) : hA (hp J s g) 59 0 (nI i) = some (s 59 i) := ha_get rfl (by decide) h
theorem zS59 {i : Nat} {v : Int32} (h : i < 16) : hAw (hp J s g) 59 0 (nI i) v = some (hp J (va_up s 59 (va_up (s 59) i v)) g) := ha_set rfl (by decide) h
theorem zL60 : hLen (hp J s g) 60 = some (nI 16) := hl_arr rfl (by decide)
theorem zB60 {i : Nat} (h : i < 16) : hB (hp J s g) 60 (nI i) = some (s 60 i) := hb_get rfl (by decide) (by decide) h
theorem zT60 {i : Nat} {v : Int32} (h : i < 16) : hBw (hp J s g) 60 (nI i) v = some (hp J (va_up s 60 (va_up (s 60) i (vp_nar .boolean v))) g) := hb_set2 rfl (by decide) h
theorem zL61 : hLen (hp J s g) 61 = some (nI 24) := hl_arr rfl (by decide)
theorem zA61 {i : Nat} (h : i < 24) : hA (hp J s g) 61 0 (nI i) = some (s 61 i) := ha_get rfl (by decide) h
theorem zS61 {i : Nat} {v : Int32} (h : i < 24) : hAw (hp J s g) 61 0 (nI i) v = some (hp J (va_up s 61 (va_up (s 61) i v)) g) := ha_set rfl (by decide) h
theorem zL62 : hLen (hp J s g) 62 = some (nI 24) := hl_arr rfl (by decide)
theorem zA62 {i : Nat} (h : i < 24) : hA (hp J s g) 62 0 (nI i) = some (s 62 i) := ha_get rfl (by decide) h
theorem zS62 {i : Nat} {v : Int32} (h : i < 24) : hAw (hp J s g) 62 0 (nI i) v = some (hp J (va_up s 62 (va_up (s 62) i v)) g) := ha_set rfl (by decide) h
theorem zL63 : hLen (hp J s g) 63 = some (nI 4) := hl_arr rfl (by decide)
theorem zA63 {i : Nat} (h : i < 4) : hA (hp J s g) 63 0 (nI i) = some (s 63 i) := ha_get rfl (by decide) h
theorem zS63 {i : Nat} {v : Int32} (h : i < 4) : hAw (hp J s g) 63 0 (nI i) v = some (hp J (va_up s 63 (va_up (s 63) i v)) g) := ha_set rfl (by decide) h
theorem zL64 : hLen (hp J s g) 64 = some (nI 16) := hl_arr rfl (by decide)
theorem zA64 {i : Nat} (h : i < 16) : hA (hp J s g) 64 0 (nI i) = some (s 64 i) := ha_get rfl (by decide) h
theorem zS64 {i : Nat} {v : Int32} (h : i < 16) : hAw (hp J s g) 64 0 (nI i) v = some (hp J (va_up s 64 (va_up (s 64) i v)) g) := ha_set rfl (by decide) h
theorem zC65 : hC (hp J s g) 65 = some 3 := hc_obj rfl
theorem zO65_0 : hO (hp J s g) 65 3 0 = some (.int (s 65 0)) := ho_int rfl rfl
theorem zW65_0 {v : Int32} : hOw (hp J s g) 65 3 0 (.int v) = some (hp J (va_up s 65 (va_up (s 65) 0 v)) g) := how_int rfl rfl
theorem zO65_1 : hO (hp J s g) 65 3 1 = some (.int (s 65 1)) := ho_int rfl rfl
theorem zW65_1 {v : Int32} : hOw (hp J s g) 65 3 1 (.int v) = some (hp J (va_up s 65 (va_up (s 65) 1 v)) g) := how_int rfl rfl
theorem zO65_2 : hO (hp J s g) 65 3 2 = some (.int (s 65 2)) := ho_int rfl rfl
theorem zW65_2 {v : Int32} : hOw (hp J s g) 65 3 2 (.int v) = some (hp J (va_up s 65 (va_up (s 65) 2 v)) g) := how_int rfl rfl
theorem zO65_3 : hO (hp J s g) 65 3 3 = some (.ref 47) := ho_ref rfl rfl
theorem zO65_4 : hO (hp J s g) 65 3 4 = some (.ref 66) := ho_ref rfl rfl
theorem zO65_5 : hO (hp J s g) 65 3 5 = some (.ref 67) := ho_ref rfl rfl
theorem zO65_6 : hO (hp J s g) 65 3 6 = some (.ref 68) := ho_ref rfl rfl
theorem zO65_7 : hO (hp J s g) 65 3 7 = some (.ref 69) := ho_ref rfl rfl
theorem zO65_8 : hO (hp J s g) 65 3 8 = some (.int (s 65 8)) := ho_int rfl rfl
theorem zW65_8 {v : Int32} : hOw (hp J s g) 65 3 8 (.int v) = some (hp J (va_up s 65 (va_up (s 65) 8 v)) g) := how_int rfl rfl
theorem zO65_9 : hO (hp J s g) 65 3 9 = some (.int (s 65 9)) := ho_int rfl rfl
theorem zW65_9 {v : Int32} : hOw (hp J s g) 65 3 9 (.int v) = some (hp J (va_up s 65 (va_up (s 65) 9 v)) g) := how_int rfl rfl
theorem zO65_10 : hO (hp J s g) 65 3 10 = some (.int (s 65 10)) := ho_int rfl rfl
theorem zW65_10 {v : Int32} : hOw (hp J s g) 65 3 10 (.int v) = some (hp J (va_up s 65 (va_up (s 65) 10 v)) g) := how_int rfl rfl
theorem zO65_11 : hO (hp J s g) 65 3 11 = some (.int (s 65 11)) := ho_int rfl rfl
theorem zW65_11 {v : Int32} : hOw (hp J s g) 65 3 11 (.int v) = some (hp J (va_up s 65 (va_up (s 65) 11 v)) g) := how_int rfl rfl
theorem zO65_12 : hO (hp J s g) 65 3 12 = some (.int (s 65 12)) := ho_int rfl rfl
theorem zW65_12 {v : Int32} : hOw (hp J s g) 65 3 12 (.int v) = some (hp J (va_up s 65 (va_up (s 65) 12 v)) g) := how_int rfl rfl
theorem zL66 : hLen (hp J s g) 66 = some (nI 1536) := hl_arr rfl (by decide)
theorem zA66 {i : Nat} (h : i < 1536) : hA (hp J s g) 66 0 (nI i) = some (s 66 i) := ha_get rfl (by decide) h
theorem zS66 {i : Nat} {v : Int32} (h : i < 1536) : hAw (hp J s g) 66 0 (nI i) v = some (hp J (va_up s 66 (va_up (s 66) i v)) g) := ha_set rfl (by decide) h
theorem zL67 : hLen (hp J s g) 67 = some (nI 256) := hl_arr rfl (by decide)
theorem zA67 {i : Nat} (h : i < 256) : hA (hp J s g) 67 0 (nI i) = some (s 67 i) := ha_get rfl (by decide) h
theorem zS67 {i : Nat} {v : Int32} (h : i < 256) : hAw (hp J s g) 67 0 (nI i) v = some (hp J (va_up s 67 (va_up (s 67) i v)) g) := ha_set rfl (by decide) h
theorem zL68 : hLen (hp J s g) 68 = some (nI 54) := hl_arr rfl (by decide)
theorem zA68 {i : Nat} (h : i < 54) : hA (hp J s g) 68 0 (nI i) = some (s 68 i) := ha_get rfl (by decide) h
theorem zS68 {i : Nat} {v : Int32} (h : i < 54) : hAw (hp J s g) 68 0 (nI i) v = some (hp J (va_up s 68 (va_up (s 68) i v)) g) := ha_set rfl (by decide) h
theorem zL69 : hLen (hp J s g) 69 = some (nI 2048) := hl_arr rfl (by decide)
theorem zA69 {i : Nat} (h : i < 2048) : hA (hp J s g) 69 0 (nI i) = some (s 69 i) := ha_get rfl (by decide) h
theorem zS69 {i : Nat} {v : Int32} (h : i < 2048) : hAw (hp J s g) 69 0 (nI i) v = some (hp J (va_up s 69 (va_up (s 69) i v)) g) := ha_set rfl (by decide) h
theorem zC70 : hC (hp J s g) 70 = some 2 := hc_obj rfl
theorem zO70_0 : hO (hp J s g) 70 2 0 = some (.ref 71) := ho_ref rfl rfl
theorem zO70_1 : hO (hp J s g) 70 2 1 = some (.ref 72) := ho_ref rfl rfl
theorem zL71 : hLen (hp J s g) 71 = some (nI 49) := hl_arr rfl (by decide)
theorem zA71 {i : Nat} (h : i < 49) : hA (hp J s g) 71 0 (nI i) = some (s 71 i) := ha_get rfl (by decide) h
theorem zS71 {i : Nat} {v : Int32} (h : i < 49) : hAw (hp J s g) 71 0 (nI i) v = some (hp J (va_up s 71 (va_up (s 71) i v)) g) := ha_set rfl (by decide) h
theorem zL72 : hLen (hp J s g) 72 = some (nI 7) := hl_arr rfl (by decide)
theorem zA72 {i : Nat} (h : i < 7) : hA (hp J s g) 72 0 (nI i) = some (s 72 i) := ha_get rfl (by decide) h
theorem zS72 {i : Nat} {v : Int32} (h : i < 7) : hAw (hp J s g) 72 0 (nI i) v = some (hp J (va_up s 72 (va_up (s 72) i v)) g) := ha_set rfl (by decide) h
theorem zC73 : hC (hp J s g) 73 = some 1 := hc_obj rfl
theorem zO73_0 : hO (hp J s g) 73 1 0 = some (.ref (s 73 0).toNatClampNeg) := ho_dyn rfl rfl
theorem zW73_0 {x : Nat} (hx : x < 2 ^ 31) : hOw (hp J s g) 73 1 0 (.ref x) = some (hp J (va_up s 73 (va_up (s 73) 0 (nI x))) g) := how_dyn rfl rfl hx
theorem zO73_1 : hO (hp J s g) 73 1 1 = some (.ref 76) := ho_ref rfl rfl
theorem zO73_2 : hO (hp J s g) 73 1 2 = some (.ref 77) := ho_ref rfl rfl
theorem zO73_3 : hO (hp J s g) 73 1 3 = some (.ref (s 73 3).toNatClampNeg) := ho_dyn rfl rfl
theorem zW73_3 {x : Nat} (hx : x < 2 ^ 31) : hOw (hp J s g) 73 1 3 (.ref x) = some (hp J (va_up s 73 (va_up (s 73) 3 (nI x))) g) := how_dyn rfl rfl hx
theorem zO73_4 : hO (hp J s g) 73 1 4 = some (.ref (s 73 4).toNatClampNeg) := ho_dyn rfl rfl
theorem zW73_4 {x : Nat} (hx : x < 2 ^ 31) : hOw (hp J s g) 73 1 4 (.ref x) = some (hp J (va_up s 73 (va_up (s 73) 4 (nI x))) g) := how_dyn rfl rfl hx
theorem zO73_5 : hO (hp J s g) 73 1 5 = some (.ref 80) := ho_ref rfl rfl
theorem zC74 : hC (hp J s g) 74 = some 4 := hc_obj rfl
theorem zO74_0 : hO (hp J s g) 74 4 0 = some (.int (s 74 0)) := ho_int rfl rfl
theorem zW74_0 {v : Int32} : hOw (hp J s g) 74 4 0 (.int v) = some (hp J (va_up s 74 (va_up (s 74) 0 v)) g) := how_int rfl rfl
theorem zO74_1 : hO (hp J s g) 74 4 1 = some (.int (s 74 1)) := ho_int rfl rfl
theorem zW74_1 {v : Int32} : hOw (hp J s g) 74 4 1 (.int v) = some (hp J (va_up s 74 (va_up (s 74) 1 v)) g) := how_int rfl rfl
theorem zO74_2 : hO (hp J s g) 74 4 2 = some (.int (s 74 2)) := ho_int rfl rfl
theorem zW74_2 {v : Int32} : hOw (hp J s g) 74 4 2 (.int v) = some (hp J (va_up s 74 (va_up (s 74) 2 v)) g) := how_int rfl rfl
theorem zO74_3 : hO (hp J s g) 74 4 3 = some (.ref 75) := ho_ref rfl rfl
theorem zL75 : hLen (hp J s g) 75 = some (nI 36) := hl_arr rfl (by decide)
theorem zA75 {i : Nat} (h : i < 36) : hA (hp J s g) 75 0 (nI i) = some (s 75 i) := ha_get rfl (by decide) h
theorem zS75 {i : Nat} {v : Int32} (h : i < 36) : hAw (hp J s g) 75 0 (nI i) v = some (hp J (va_up s 75 (va_up (s 75) i v)) g) := ha_set rfl (by decide) h
theorem zL76 : hLen (hp J s g) 76 = some (nI 42) := hl_arr rfl (by decide)
theorem zA76 {i : Nat} (h : i < 42) : hA (hp J s g) 76 0 (nI i) = some (s 76 i) := ha_get rfl (by decide) h
theorem zS76 {i : Nat} {v : Int32} (h : i < 42) : hAw (hp J s g) 76 0 (nI i) v = some (hp J (va_up s 76 (va_up (s 76) i v)) g) := ha_set rfl (by decide) h
theorem zL77 : hLen (hp J s g) 77 = some (nI 42) := hl_arr rfl (by decide)
theorem zA77 {i : Nat} (h : i < 42) : hA (hp J s g) 77 0 (nI i) = some (s 77 i) := ha_get rfl (by decide) h
theorem zS77 {i : Nat} {v : Int32} (h : i < 42) : hAw (hp J s g) 77 0 (nI i) v = some (hp J (va_up s 77 (va_up (s 77) i v)) g) := ha_set rfl (by decide) h
theorem zL78 : hLen (hp J s g) 78 = some (nI 13) := hl_arr rfl (by decide)
theorem zA78 {i : Nat} (h : i < 13) : hA (hp J s g) 78 0 (nI i) = some (s 78 i) := ha_get rfl (by decide) h
theorem zS78 {i : Nat} {v : Int32} (h : i < 13) : hAw (hp J s g) 78 0 (nI i) v = some (hp J (va_up s 78 (va_up (s 78) i v)) g) := ha_set rfl (by decide) h
theorem zL79 : hLen (hp J s g) 79 = some (nI 13) := hl_arr rfl (by decide)
theorem zA79 {i : Nat} (h : i < 13) : hA (hp J s g) 79 0 (nI i) = some (s 79 i) := ha_get rfl (by decide) h
theorem zS79 {i : Nat} {v : Int32} (h : i < 13) : hAw (hp J s g) 79 0 (nI i) v = some (hp J (va_up s 79 (va_up (s 79) i v)) g) := ha_set rfl (by decide) h
theorem zL80 : hLen (hp J s g) 80 = some (nI 7) := hl_arr rfl (by decide)
theorem zA80 {i : Nat} (h : i < 7) : hA (hp J s g) 80 0 (nI i) = some (s 80 i) := ha_get rfl (by decide) h
theorem zS80 {i : Nat} {v : Int32} (h : i < 7) : hAw (hp J s g) 80 0 (nI i) v = some (hp J (va_up s 80 (va_up (s 80) i v)) g) := ha_set rfl (by decide) h
theorem zC81 : hC (hp J s g) 81 = some 10 := hc_obj rfl
theorem zO81_0 : hO (hp J s g) 81 10 0 = some (.ref 82) := ho_ref rfl rfl
theorem zO81_1 : hO (hp J s g) 81 10 1 = some (.ref 83) := ho_ref rfl rfl
theorem zO81_2 : hO (hp J s g) 81 10 2 = some (.int (s 81 2)) := ho_int rfl rfl
theorem zW81_2 {v : Int32} : hOw (hp J s g) 81 10 2 (.int v) = some (hp J (va_up s 81 (va_up (s 81) 2 v)) g) := how_int rfl rfl
theorem zO81_3 : hO (hp J s g) 81 10 3 = some (.int (s 81 3)) := ho_int rfl rfl
theorem zW81_3 {v : Int32} : hOw (hp J s g) 81 10 3 (.int v) = some (hp J (va_up s 81 (va_up (s 81) 3 v)) g) := how_int rfl rfl
theorem zO81_4 : hO (hp J s g) 81 10 4 = some (.int (s 81 4)) := ho_int rfl rfl
theorem zW81_4 {v : Int32} : hOw (hp J s g) 81 10 4 (.int v) = some (hp J (va_up s 81 (va_up (s 81) 4 v)) g) := how_int rfl rfl
theorem zO81_5 : hO (hp J s g) 81 10 5 = some (.int (s 81 5)) := ho_int rfl rfl
theorem zW81_5 {v : Int32} : hOw (hp J s g) 81 10 5 (.int v) = some (hp J (va_up s 81 (va_up (s 81) 5 v)) g) := how_int rfl rfl
theorem zO81_6 : hO (hp J s g) 81 10 6 = some (.int (s 81 6)) := ho_int rfl rfl
theorem zW81_6 {v : Int32} : hOw (hp J s g) 81 10 6 (.int v) = some (hp J (va_up s 81 (va_up (s 81) 6 v)) g) := how_int rfl rfl
theorem zO81_7 : hO (hp J s g) 81 10 7 = some (.int (s 81 7)) := ho_int rfl rfl
theorem zW81_7 {v : Int32} : hOw (hp J s g) 81 10 7 (.int v) = some (hp J (va_up s 81 (va_up (s 81) 7 v)) g) := how_int rfl rfl
theorem zO81_8 : hO (hp J s g) 81 10 8 = some (.int (s 81 8)) := ho_int rfl rfl
theorem zW81_8 {v : Int32} : hOw (hp J s g) 81 10 8 (.int v) = some (hp J (va_up s 81 (va_up (s 81) 8 v)) g) := how_int rfl rfl
theorem zO81_9 : hO (hp J s g) 81 10 9 = some (.int (s 81 9)) := ho_int rfl rfl
theorem zW81_9 {v : Int32} : hOw (hp J s g) 81 10 9 (.int v) = some (hp J (va_up s 81 (va_up (s 81) 9 v)) g) := how_int rfl rfl
theorem zO81_10 : hO (hp J s g) 81 10 10 = some (.int (s 81 10)) := ho_int rfl rfl
theorem zW81_10 {v : Int32} : hOw (hp J s g) 81 10 10 (.int v) = some (hp J (va_up s 81 (va_up (s 81) 10 v)) g) := how_int rfl rfl
theorem zO81_11 : hO (hp J s g) 81 10 11 = some (.ref 84) := ho_ref rfl rfl
theorem zO81_12 : hO (hp J s g) 81 10 12 = some (.int (s 81 12)) := ho_int rfl rfl
theorem zW81_12 {v : Int32} : hOw (hp J s g) 81 10 12 (.int v) = some (hp J (va_up s 81 (va_up (s 81) 12 v)) g) := how_int rfl rfl
theorem zO81_13 : hO (hp J s g) 81 10 13 = some (.int (s 81 13)) := ho_int rfl rfl
theorem zW81_13 {v : Int32} : hOw (hp J s g) 81 10 13 (.int v) = some (hp J (va_up s 81 (va_up (s 81) 13 v)) g) := how_int rfl rfl
theorem zO81_14 : hO (hp J s g) 81 10 14 = some (.int (s 81 14)) := ho_int rfl rfl
theorem zW81_14 {v : Int32} : hOw (hp J s g) 81 10 14 (.int v) = some (hp J (va_up s 81 (va_up (s 81) 14 v)) g) := how_int rfl rfl
theorem zO81_15 : hO (hp J s g) 81 10 15 = some (.ref 85) := ho_ref rfl rfl
theorem zO81_16 : hO (hp J s g) 81 10 16 = some (.ref 86) := ho_ref rfl rfl
theorem zO81_17 : hO (hp J s g) 81 10 17 = some (.ref 87) := ho_ref rfl rfl
theorem zO81_18 : hO (hp J s g) 81 10 18 = some (.ref 88) := ho_ref rfl rfl
theorem zO81_19 : hO (hp J s g) 81 10 19 = some (.ref 89) := ho_ref rfl rfl
theorem zO81_20 : hO (hp J s g) 81 10 20 = some (.ref 90) := ho_ref rfl rfl
theorem zO81_21 : hO (hp J s g) 81 10 21 = some (.ref 91) := ho_ref rfl rfl
theorem zO81_22 : hO (hp J s g) 81 10 22 = some (.ref 92) := ho_ref rfl rfl
theorem zO81_23 : hO (hp J s g) 81 10 23 = some (.int (s 81 23)) := ho_int rfl rfl
theorem zW81_23 {v : Int32} : hOw (hp J s g) 81 10 23 (.int v) = some (hp J (va_up s 81 (va_up (s 81) 23 v)) g) := how_int rfl rfl
theorem zO81_24 : hO (hp J s g) 81 10 24 = some (.int (s 81 24)) := ho_int rfl rfl
theorem zW81_24 {v : Int32} : hOw (hp J s g) 81 10 24 (.int v) = some (hp J (va_up s 81 (va_up (s 81) 24 v)) g) := how_int rfl rfl
theorem zO81_25 : hO (hp J s g) 81 10 25 = some (.int (s 81 25)) := ho_int rfl rfl
theorem zW81_25 {v : Int32} : hOw (hp J s g) 81 10 25 (.int v) = some (hp J (va_up s 81 (va_up (s 81) 25 v)) g) := how_int rfl rfl
theorem zO81_26 : hO (hp J s g) 81 10 26 = some (.int (s 81 26)) := ho_int rfl rfl
theorem zW81_26 {v : Int32} : hOw (hp J s g) 81 10 26 (.int v) = some (hp J (va_up s 81 (va_up (s 81) 26 v)) g) := how_int rfl rfl
theorem zO81_27 : hO (hp J s g) 81 10 27 = some (.ref 93) := ho_ref rfl rfl
theorem zO81_28 : hO (hp J s g) 81 10 28 = some (.ref 94) := ho_ref rfl rfl
theorem zO81_29 : hO (hp J s g) 81 10 29 = some (.ref 95) := ho_ref rfl rfl
theorem zO81_30 : hO (hp J s g) 81 10 30 = some (.ref 96) := ho_ref rfl rfl
theorem zO81_31 : hO (hp J s g) 81 10 31 = some (.ref 97) := ho_ref rfl rfl
theorem zO81_32 : hO (hp J s g) 81 10 32 = some (.ref 98) := ho_ref rfl rfl
theorem zO81_33 : hO (hp J s g) 81 10 33 = some (.ref 99) := ho_ref rfl rfl
theorem zO81_34 : hO (hp J s g) 81 10 34 = some (.int (s 81 34)) := ho_int rfl rfl
theorem zW81_34 {v : Int32} : hOw (hp J s g) 81 10 34 (.int v) = some (hp J (va_up s 81 (va_up (s 81) 34 v)) g) := how_int rfl rfl
theorem zO81_35 : hO (hp J s g) 81 10 35 = some (.int (s 81 35)) := ho_int rfl rfl
theorem zW81_35 {v : Int32} : hOw (hp J s g) 81 10 35 (.int v) = some (hp J (va_up s 81 (va_up (s 81) 35 v)) g) := how_int rfl rfl
theorem zO81_36 : hO (hp J s g) 81 10 36 = some (.int (s 81 36)) := ho_int rfl rfl
theorem zW81_36 {v : Int32} : hOw (hp J s g) 81 10 36 (.int v) = some (hp J (va_up s 81 (va_up (s 81) 36 v)) g) := how_int rfl rfl
theorem zO81_37 : hO (hp J s g) 81 10 37 = some (.int (s 81 37)) := ho_int rfl rfl
theorem zW81_37 {v : Int32} : hOw (hp J s g) 81 10 37 (.int v) = some (hp J (va_up s 81 (va_up (s 81) 37 v)) g) := how_int rfl rfl
theorem zO81_38 : hO (hp J s g) 81 10 38 = some (.ref 100) := ho_ref rfl rfl
theorem zO81_39 : hO (hp J s g) 81 10 39 = some (.ref 101) := ho_ref rfl rfl
theorem zO81_40 : hO (hp J s g) 81 10 40 = some (.ref 102) := ho_ref rfl rfl
theorem zO81_41 : hO (hp J s g) 81 10 41 = some (.int (s 81 41)) := ho_int rfl rfl
theorem zW81_41 {v : Int32} : hOw (hp J s g) 81 10 41 (.int v) = some (hp J (va_up s 81 (va_up (s 81) 41 v)) g) := how_int rfl rfl
theorem zL82 : hLen (hp J s g) 82 = some (nI 5072) := hl_arr rfl (by decide)
theorem zA82 {i : Nat} (h : i < 5072) : hA (hp J s g) 82 0 (nI i) = some (s 82 i) := ha_get rfl (by decide) h
theorem zS82 {i : Nat} {v : Int32} (h : i < 5072) : hAw (hp J s g) 82 0 (nI i) v = some (hp J (va_up s 82 (va_up (s 82) i v)) g) := ha_set rfl (by decide) h
theorem zL83 : hLen (hp J s g) 83 = some (nI 3) := hl_arr rfl (by decide)
theorem zB83 {i : Nat} (h : i < 3) : hB (hp J s g) 83 (nI i) = some (s 83 i) := hb_get rfl (by decide) (by decide) h
theorem zT83 {i : Nat} {v : Int32} (h : i < 3) : hBw (hp J s g) 83 (nI i) v = some (hp J (va_up s 83 (va_up (s 83) i (vp_nar .boolean v))) g) := hb_set2 rfl (by decide) h
theorem zL84 : hLen (hp J s g) 84 = some (nI 161) := hl_arr rfl (by decide)
theorem zA84 {i : Nat} (h : i < 161) : hA (hp J s g) 84 0 (nI i) = some (s 84 i) := ha_get rfl (by decide) h
theorem zS84 {i : Nat} {v : Int32} (h : i < 161) : hAw (hp J s g) 84 0 (nI i) v = some (hp J (va_up s 84 (va_up (s 84) i v)) g) := ha_set rfl (by decide) h
theorem zL85 : hLen (hp J s g) 85 = some (nI 24) := hl_arr rfl (by decide)
theorem zA85 {i : Nat} (h : i < 24) : hA (hp J s g) 85 0 (nI i) = some (s 85 i) := ha_get rfl (by decide) h
theorem zS85 {i : Nat} {v : Int32} (h : i < 24) : hAw (hp J s g) 85 0 (nI i) v = some (hp J (va_up s 85 (va_up (s 85) i v)) g) := ha_set rfl (by decide) h
theorem zL86 : hLen (hp J s g) 86 = some (nI 24) := hl_arr rfl (by decide)
theorem zA86 {i : Nat} (h : i < 24) : hA (hp J s g) 86 0 (nI i) = some (s 86 i) := ha_get rfl (by decide) h
theorem zS86 {i : Nat} {v : Int32} (h : i < 24) : hAw (hp J s g) 86 0 (nI i) v = some (hp J (va_up s 86 (va_up (s 86) i v)) g) := ha_set rfl (by decide) h
theorem zL87 : hLen (hp J s g) 87 = some (nI 4) := hl_arr rfl (by decide)
theorem zA87 {i : Nat} (h : i < 4) : hA (hp J s g) 87 0 (nI i) = some (s 87 i) := ha_get rfl (by decide) h
theorem zS87 {i : Nat} {v : Int32} (h : i < 4) : hAw (hp J s g) 87 0 (nI i) v = some (hp J (va_up s 87 (va_up (s 87) i v)) g) := ha_set rfl (by decide) h
theorem zL88 : hLen (hp J s g) 88 = some (nI 96) := hl_arr rfl (by decide)
theorem zA88 {i : Nat} (h : i < 96) : hA (hp J s g) 88 0 (nI i) = some (s 88 i) := ha_get rfl (by decide) h
theorem zS88 {i : Nat} {v : Int32} (h : i < 96) : hAw (hp J s g) 88 0 (nI i) v = some (hp J (va_up s 88 (va_up (s 88) i v)) g) := ha_set rfl (by decide) h
theorem zL89 : hLen (hp J s g) 89 = some (nI 16) := hl_arr rfl (by decide)
theorem zA89 {i : Nat} (h : i < 16) : hA (hp J s g) 89 0 (nI i) = some (s 89 i) := ha_get rfl (by decide) h
theorem zS89 {i : Nat} {v : Int32} (h : i < 16) : hAw (hp J s g) 89 0 (nI i) v = some (hp J (va_up s 89 (va_up (s 89) i v)) g) := ha_set rfl (by decide) h
theorem zL90 : hLen (hp J s g) 90 = some (nI 16) := hl_arr rfl (by decide)
theorem zA90 {i : Nat} (h : i < 16) : hA (hp J s g) 90 0 (nI i) = some (s 90 i) := ha_get rfl (by decide) h
theorem zS90 {i : Nat} {v : Int32} (h : i < 16) : hAw (hp J s g) 90 0 (nI i) v = some (hp J (va_up s 90 (va_up (s 90) i v)) g) := ha_set rfl (by decide) h
theorem zL91 : hLen (hp J s g) 91 = some (nI 16) := hl_arr rfl (by decide)
theorem zB91 {i : Nat} (h : i < 16) : hB (hp J s g) 91 (nI i) = some (s 91 i) := hb_get rfl (by decide) (by decide) h
theorem zT91 {i : Nat} {v : Int32} (h : i < 16) : hBw (hp J s g) 91 (nI i) v = some (hp J (va_up s 91 (va_up (s 91) i (vp_nar .boolean v))) g) := hb_set2 rfl (by decide) h
theorem zL92 : hLen (hp J s g) 92 = some (nI 48) := hl_arr rfl (by decide)
theorem zA92 {i : Nat} (h : i < 48) : hA (hp J s g) 92 0 (nI i) = some (s 92 i) := ha_get rfl (by decide) h
theorem zS92 {i : Nat} {v : Int32} (h : i < 48) : hAw (hp J s g) 92 0 (nI i) v = some (hp J (va_up s 92 (va_up (s 92) i v)) g) := ha_set rfl (by decide) h
theorem zL93 : hLen (hp J s g) 93 = some (nI 256) := hl_arr rfl (by decide)
theorem zA93 {i : Nat} (h : i < 256) : hA (hp J s g) 93 0 (nI i) = some (s 93 i) := ha_get rfl (by decide) h
theorem zS93 {i : Nat} {v : Int32} (h : i < 256) : hAw (hp J s g) 93 0 (nI i) v = some (hp J (va_up s 93 (va_up (s 93) i v)) g) := ha_set rfl (by decide) h
theorem zL94 : hLen (hp J s g) 94 = some (nI 256) := hl_arr rfl (by decide)
theorem zA94 {i : Nat} (h : i < 256) : hA (hp J s g) 94 0 (nI i) = some (s 94 i) := ha_get rfl (by decide) h
theorem zS94 {i : Nat} {v : Int32} (h : i < 256) : hAw (hp J s g) 94 0 (nI i) v = some (hp J (va_up s 94 (va_up (s 94) i v)) g) := ha_set rfl (by decide) h
theorem zL95 : hLen (hp J s g) 95 = some (nI 256) := hl_arr rfl (by decide)
theorem zA95 {i : Nat} (h : i < 256) : hA (hp J s g) 95 0 (nI i) = some (s 95 i) := ha_get rfl (by decide) h
theorem zS95 {i : Nat} {v : Int32} (h : i < 256) : hAw (hp J s g) 95 0 (nI i) v = some (hp J (va_up s 95 (va_up (s 95) i v)) g) := ha_set rfl (by decide) h
theorem zL96 : hLen (hp J s g) 96 = some (nI 8) := hl_arr rfl (by decide)
theorem zA96 {i : Nat} (h : i < 8) : hA (hp J s g) 96 0 (nI i) = some (s 96 i) := ha_get rfl (by decide) h
theorem zS96 {i : Nat} {v : Int32} (h : i < 8) : hAw (hp J s g) 96 0 (nI i) v = some (hp J (va_up s 96 (va_up (s 96) i v)) g) := ha_set rfl (by decide) h
theorem zL97 : hLen (hp J s g) 97 = some (nI 8) := hl_arr rfl (by decide)
theorem zA97 {i : Nat} (h : i < 8) : hA (hp J s g) 97 0 (nI i) = some (s 97 i) := ha_get rfl (by decide) h
theorem zS97 {i : Nat} {v : Int32} (h : i < 8) : hAw (hp J s g) 97 0 (nI i) v = some (hp J (va_up s 97 (va_up (s 97) i v)) g) := ha_set rfl (by decide) h
theorem zL98 : hLen (hp J s g) 98 = some (nI 6561) := hl_arr rfl (by decide)
theorem zA98 {i : Nat} (h : i < 6561) : hA (hp J s g) 98 0 (nI i) = some (s 98 i) := ha_get rfl (by decide) h
theorem zS98 {i : Nat} {v : Int32} (h : i < 6561) : hAw (hp J s g) 98 0 (nI i) v = some (hp J (va_up s 98 (va_up (s 98) i v)) g) := ha_set rfl (by decide) h
theorem zL99 : hLen (hp J s g) 99 = some (nI 6561) := hl_arr rfl (by decide)
theorem zA99 {i : Nat} (h : i < 6561) : hA (hp J s g) 99 0 (nI i) = some (s 99 i) := ha_get rfl (by decide) h
theorem zS99 {i : Nat} {v : Int32} (h : i < 6561) : hAw (hp J s g) 99 0 (nI i) v = some (hp J (va_up s 99 (va_up (s 99) i v)) g) := ha_set rfl (by decide) h
theorem zJ100 {i : Nat} (h : i < 13) : hJ (hp J s g) 100 (nI i) = some (g 100 i) := hj_get rfl (by decide) h
theorem zK100 {i : Nat} {v : Int64} (h : i < 13) : hJw (hp J s g) 100 (nI i) v = some (hp J s (va_up g 100 (va_up (g 100) i v))) := hj_set rfl (by decide) h
theorem zJ101 {i : Nat} (h : i < 13) : hJ (hp J s g) 101 (nI i) = some (g 101 i) := hj_get rfl (by decide) h
theorem zK101 {i : Nat} {v : Int64} (h : i < 13) : hJw (hp J s g) 101 (nI i) v = some (hp J s (va_up g 101 (va_up (g 101) i v))) := hj_set rfl (by decide) h
theorem zJ102 {i : Nat} (h : i < 7) : hJ (hp J s g) 102 (nI i) = some (g 102 i) := hj_get rfl (by decide) h
theorem zK102 {i : Nat} {v : Int64} (h : i < 7) : hJw (hp J s g) 102 (nI i) v = some (hp J s (va_up g 102 (va_up (g 102) i v))) := hj_set rfl (by decide) h
def isT (a : Nat) : Prop := a = 7 ∨ a = 19 ∨ a = 33 ∨ a = 48
theorem ztc {a : Nat} (h : isT a) : hC (hp J s g) a = some 8 := by
  rcases h with rfl | rfl | rfl | rfl
  · exact hc_obj rfl
  · exact hc_obj rfl
  · exact hc_obj rfl
  · exact hc_obj rfl
theorem zto0 {a : Nat} (h : isT a) : hO (hp J s g) a 8 0 = some (.int (s a 0)) := by
  rcases h with rfl | rfl | rfl | rfl
  · exact ho_int rfl rfl
  · exact ho_int rfl rfl
  · exact ho_int rfl rfl
  · exact ho_int rfl rfl
theorem ztw0 {a : Nat} (h : isT a) {v : Int32} : hOw (hp J s g) a 8 0 (.int v) = some (hp J (va_up s a (va_up (s a) 0 v)) g) := by
  rcases h with rfl | rfl | rfl | rfl
  · exact how_int rfl rfl
  · exact how_int rfl rfl
  · exact how_int rfl rfl
  · exact how_int rfl rfl
theorem zto1 {a : Nat} (h : isT a) : hO (hp J s g) a 8 1 = some (.int (s a 1)) := by
  rcases h with rfl | rfl | rfl | rfl
  · exact ho_int rfl rfl
  · exact ho_int rfl rfl
  · exact ho_int rfl rfl
  · exact ho_int rfl rfl
theorem ztw1 {a : Nat} (h : isT a) {v : Int32} : hOw (hp J s g) a 8 1 (.int v) = some (hp J (va_up s a (va_up (s a) 1 v)) g) := by
  rcases h with rfl | rfl | rfl | rfl
  · exact how_int rfl rfl
  · exact how_int rfl rfl
  · exact how_int rfl rfl
  · exact how_int rfl rfl
theorem zto2 {a : Nat} (h : isT a) : hO (hp J s g) a 8 2 = some (.int (s a 2)) := by
  rcases h with rfl | rfl | rfl | rfl
  · exact ho_int rfl rfl
  · exact ho_int rfl rfl
  · exact ho_int rfl rfl
  · exact ho_int rfl rfl
theorem ztw2 {a : Nat} (h : isT a) {v : Int32} : hOw (hp J s g) a 8 2 (.int v) = some (hp J (va_up s a (va_up (s a) 2 v)) g) := by
  rcases h with rfl | rfl | rfl | rfl
  · exact how_int rfl rfl
  · exact how_int rfl rfl
  · exact how_int rfl rfl
  · exact how_int rfl rfl
theorem zto3 {a : Nat} (h : isT a) : hO (hp J s g) a 8 3 = some (.int (s a 3)) := by
  rcases h with rfl | rfl | rfl | rfl
  · exact ho_int rfl rfl
  · exact ho_int rfl rfl
  · exact ho_int rfl rfl
  · exact ho_int rfl rfl
theorem ztw3 {a : Nat} (h : isT a) {v : Int32} : hOw (hp J s g) a 8 3 (.int v) = some (hp J (va_up s a (va_up (s a) 3 v)) g) := by
  rcases h with rfl | rfl | rfl | rfl
  · exact how_int rfl rfl
  · exact how_int rfl rfl
  · exact how_int rfl rfl
  · exact how_int rfl rfl
theorem zto4 {a : Nat} (h : isT a) : hO (hp J s g) a 8 4 = some (.int (s a 4)) := by
  rcases h with rfl | rfl | rfl | rfl
  · exact ho_int rfl rfl
  · exact ho_int rfl rfl
  · exact ho_int rfl rfl
  · exact ho_int rfl rfl
theorem ztw4 {a : Nat} (h : isT a) {v : Int32} : hOw (hp J s g) a 8 4 (.int v) = some (hp J (va_up s a (va_up (s a) 4 v)) g) := by
  rcases h with rfl | rfl | rfl | rfl
  · exact how_int rfl rfl
  · exact how_int rfl rfl
  · exact how_int rfl rfl
  · exact how_int rfl rfl
theorem zto5 {a : Nat} (h : isT a) : hO (hp J s g) a 8 5 = some (.ref (a + 1)) := by
  rcases h with rfl | rfl | rfl | rfl
  · exact ho_ref rfl rfl
  · exact ho_ref rfl rfl
  · exact ho_ref rfl rfl
  · exact ho_ref rfl rfl
theorem zto6 {a : Nat} (h : isT a) : hO (hp J s g) a 8 6 = some (.ref (a + 2)) := by
  rcases h with rfl | rfl | rfl | rfl
  · exact ho_ref rfl rfl
  · exact ho_ref rfl rfl
  · exact ho_ref rfl rfl
  · exact ho_ref rfl rfl
theorem zto7 {a : Nat} (h : isT a) : hO (hp J s g) a 8 7 = some (.ref (a + 3)) := by
  rcases h with rfl | rfl | rfl | rfl
  · exact ho_ref rfl rfl
  · exact ho_ref rfl rfl
  · exact ho_ref rfl rfl
  · exact ho_ref rfl rfl
theorem zto8 {a : Nat} (h : isT a) : hO (hp J s g) a 8 8 = some (.ref (a + 4)) := by
  rcases h with rfl | rfl | rfl | rfl
  · exact ho_ref rfl rfl
  · exact ho_ref rfl rfl
  · exact ho_ref rfl rfl
  · exact ho_ref rfl rfl
theorem zto9 {a : Nat} (h : isT a) : hO (hp J s g) a 8 9 = some (.ref (a + 5)) := by
  rcases h with rfl | rfl | rfl | rfl
  · exact ho_ref rfl rfl
  · exact ho_ref rfl rfl
  · exact ho_ref rfl rfl
  · exact ho_ref rfl rfl
theorem zto10 {a : Nat} (h : isT a) : hO (hp J s g) a 8 10 = some (.ref (a + 6)) := by
  rcases h with rfl | rfl | rfl | rfl
  · exact ho_ref rfl rfl
  · exact ho_ref rfl rfl
  · exact ho_ref rfl rfl
  · exact ho_ref rfl rfl
theorem zto11 {a : Nat} (h : isT a) : hO (hp J s g) a 8 11 = some (.ref (a + 7)) := by
  rcases h with rfl | rfl | rfl | rfl
  · exact ho_ref rfl rfl
  · exact ho_ref rfl rfl
  · exact ho_ref rfl rfl
  · exact ho_ref rfl rfl
theorem ztl1 {a : Nat} (h : isT a) : hLen (hp J s g) (a + 1) = some (nI 8) := by
  rcases h with rfl | rfl | rfl | rfl
  · exact hl_arr rfl (by decide)
  · exact hl_arr rfl (by decide)
  · exact hl_arr rfl (by decide)
  · exact hl_arr rfl (by decide)
theorem zta1 {a : Nat} (h : isT a) {i : Nat} (hi : i < 8) : hA (hp J s g) (a + 1) 0 (nI i) = some (s (a + 1) i) := by
  rcases h with rfl | rfl | rfl | rfl
  · exact ha_get rfl (by decide) hi
  · exact ha_get rfl (by decide) hi
  · exact ha_get rfl (by decide) hi
  · exact ha_get rfl (by decide) hi
theorem zts1 {a : Nat} (h : isT a) {i : Nat} {v : Int32} (hi : i < 8) : hAw (hp J s g) (a + 1) 0 (nI i) v = some (hp J (va_up s (a + 1) (va_up (s (a + 1)) i v)) g) := by
  rcases h with rfl | rfl | rfl | rfl
  · exact ha_set rfl (by decide) hi
  · exact ha_set rfl (by decide) hi
  · exact ha_set rfl (by decide) hi
  · exact ha_set rfl (by decide) hi
theorem ztl2 {a : Nat} (h : isT a) : hLen (hp J s g) (a + 2) = some (nI 8) := by
  rcases h with rfl | rfl | rfl | rfl
  · exact hl_arr rfl (by decide)
  · exact hl_arr rfl (by decide)
  · exact hl_arr rfl (by decide)
  · exact hl_arr rfl (by decide)
theorem zta2 {a : Nat} (h : isT a) {i : Nat} (hi : i < 8) : hA (hp J s g) (a + 2) 0 (nI i) = some (s (a + 2) i) := by
  rcases h with rfl | rfl | rfl | rfl
  · exact ha_get rfl (by decide) hi
  · exact ha_get rfl (by decide) hi
  · exact ha_get rfl (by decide) hi
  · exact ha_get rfl (by decide) hi
theorem zts2 {a : Nat} (h : isT a) {i : Nat} {v : Int32} (hi : i < 8) : hAw (hp J s g) (a + 2) 0 (nI i) v = some (hp J (va_up s (a + 2) (va_up (s (a + 2)) i v)) g) := by
  rcases h with rfl | rfl | rfl | rfl
  · exact ha_set rfl (by decide) hi
  · exact ha_set rfl (by decide) hi
  · exact ha_set rfl (by decide) hi
  · exact ha_set rfl (by decide) hi
theorem ztl3 {a : Nat} (h : isT a) : hLen (hp J s g) (a + 3) = some (nI 8) := by
  rcases h with rfl | rfl | rfl | rfl
  · exact hl_arr rfl (by decide)
  · exact hl_arr rfl (by decide)
  · exact hl_arr rfl (by decide)
  · exact hl_arr rfl (by decide)
theorem zta3 {a : Nat} (h : isT a) {i : Nat} (hi : i < 8) : hA (hp J s g) (a + 3) 0 (nI i) = some (s (a + 3) i) := by
  rcases h with rfl | rfl | rfl | rfl
  · exact ha_get rfl (by decide) hi
  · exact ha_get rfl (by decide) hi
  · exact ha_get rfl (by decide) hi
  · exact ha_get rfl (by decide) hi
theorem zts3 {a : Nat} (h : isT a) {i : Nat} {v : Int32} (hi : i < 8) : hAw (hp J s g) (a + 3) 0 (nI i) v = some (hp J (va_up s (a + 3) (va_up (s (a + 3)) i v)) g) := by
  rcases h with rfl | rfl | rfl | rfl
  · exact ha_set rfl (by decide) hi
  · exact ha_set rfl (by decide) hi
  · exact ha_set rfl (by decide) hi
  · exact ha_set rfl (by decide) hi
theorem ztl4 {a : Nat} (h : isT a) : hLen (hp J s g) (a + 4) = some (nI 48) := by
  rcases h with rfl | rfl | rfl | rfl
  · exact hl_arr rfl (by decide)
  · exact hl_arr rfl (by decide)
  · exact hl_arr rfl (by decide)
  · exact hl_arr rfl (by decide)
theorem zta4 {a : Nat} (h : isT a) {i : Nat} (hi : i < 48) : hA (hp J s g) (a + 4) 0 (nI i) = some (s (a + 4) i) := by
  rcases h with rfl | rfl | rfl | rfl
  · exact ha_get rfl (by decide) hi
  · exact ha_get rfl (by decide) hi
  · exact ha_get rfl (by decide) hi
  · exact ha_get rfl (by decide) hi
theorem zts4 {a : Nat} (h : isT a) {i : Nat} {v : Int32} (hi : i < 48) : hAw (hp J s g) (a + 4) 0 (nI i) v = some (hp J (va_up s (a + 4) (va_up (s (a + 4)) i v)) g) := by
  rcases h with rfl | rfl | rfl | rfl
  · exact ha_set rfl (by decide) hi
  · exact ha_set rfl (by decide) hi
  · exact ha_set rfl (by decide) hi
  · exact ha_set rfl (by decide) hi
theorem ztl5 {a : Nat} (h : isT a) : hLen (hp J s g) (a + 5) = some (nI 36) := by
  rcases h with rfl | rfl | rfl | rfl
  · exact hl_arr rfl (by decide)
  · exact hl_arr rfl (by decide)
  · exact hl_arr rfl (by decide)
  · exact hl_arr rfl (by decide)
theorem zta5 {a : Nat} (h : isT a) {i : Nat} (hi : i < 36) : hA (hp J s g) (a + 5) 0 (nI i) = some (s (a + 5) i) := by
  rcases h with rfl | rfl | rfl | rfl
  · exact ha_get rfl (by decide) hi
  · exact ha_get rfl (by decide) hi
  · exact ha_get rfl (by decide) hi
  · exact ha_get rfl (by decide) hi
theorem zts5 {a : Nat} (h : isT a) {i : Nat} {v : Int32} (hi : i < 36) : hAw (hp J s g) (a + 5) 0 (nI i) v = some (hp J (va_up s (a + 5) (va_up (s (a + 5)) i v)) g) := by
  rcases h with rfl | rfl | rfl | rfl
  · exact ha_set rfl (by decide) hi
  · exact ha_set rfl (by decide) hi
  · exact ha_set rfl (by decide) hi
  · exact ha_set rfl (by decide) hi
theorem ztl6 {a : Nat} (h : isT a) : hLen (hp J s g) (a + 6) = some (nI 8) := by
  rcases h with rfl | rfl | rfl | rfl
  · exact hl_arr rfl (by decide)
  · exact hl_arr rfl (by decide)
  · exact hl_arr rfl (by decide)
  · exact hl_arr rfl (by decide)
theorem zta6 {a : Nat} (h : isT a) {i : Nat} (hi : i < 8) : hA (hp J s g) (a + 6) 0 (nI i) = some (s (a + 6) i) := by
  rcases h with rfl | rfl | rfl | rfl
  · exact ha_get rfl (by decide) hi
  · exact ha_get rfl (by decide) hi
  · exact ha_get rfl (by decide) hi
  · exact ha_get rfl (by decide) hi
theorem zts6 {a : Nat} (h : isT a) {i : Nat} {v : Int32} (hi : i < 8) : hAw (hp J s g) (a + 6) 0 (nI i) v = some (hp J (va_up s (a + 6) (va_up (s (a + 6)) i v)) g) := by
  rcases h with rfl | rfl | rfl | rfl
  · exact ha_set rfl (by decide) hi
  · exact ha_set rfl (by decide) hi
  · exact ha_set rfl (by decide) hi
  · exact ha_set rfl (by decide) hi
theorem ztl7 {a : Nat} (h : isT a) : hLen (hp J s g) (a + 7) = some (nI 8) := by
  rcases h with rfl | rfl | rfl | rfl
  · exact hl_arr rfl (by decide)
  · exact hl_arr rfl (by decide)
  · exact hl_arr rfl (by decide)
  · exact hl_arr rfl (by decide)
theorem zta7 {a : Nat} (h : isT a) {i : Nat} (hi : i < 8) : hA (hp J s g) (a + 7) 0 (nI i) = some (s (a + 7) i) := by
  rcases h with rfl | rfl | rfl | rfl
  · exact ha_get rfl (by decide) hi
  · exact ha_get rfl (by decide) hi
  · exact ha_get rfl (by decide) hi
  · exact ha_get rfl (by decide) hi
theorem zts7 {a : Nat} (h : isT a) {i : Nat} {v : Int32} (hi : i < 8) : hAw (hp J s g) (a + 7) 0 (nI i) v = some (hp J (va_up s (a + 7) (va_up (s (a + 7)) i v)) g) := by
  rcases h with rfl | rfl | rfl | rfl
  · exact ha_set rfl (by decide) hi
  · exact ha_set rfl (by decide) hi
  · exact ha_set rfl (by decide) hi
  · exact ha_set rfl (by decide) hi
def isD (a : Nat) : Prop := a = 15 ∨ a = 27 ∨ a = 41
theorem zdc {a : Nat} (h : isD a) : hC (hp J s g) a = some 0 := by
  rcases h with rfl | rfl | rfl
  · exact hc_obj rfl
  · exact hc_obj rfl
  · exact hc_obj rfl
theorem zdo0 {a : Nat} (h : isD a) : hO (hp J s g) a 0 0 = some (.int (s a 0)) := by
  rcases h with rfl | rfl | rfl
  · exact ho_int rfl rfl
  · exact ho_int rfl rfl
  · exact ho_int rfl rfl
theorem zdw0 {a : Nat} (h : isD a) {v : Int32} : hOw (hp J s g) a 0 0 (.int v) = some (hp J (va_up s a (va_up (s a) 0 v)) g) := by
  rcases h with rfl | rfl | rfl
  · exact how_int rfl rfl
  · exact how_int rfl rfl
  · exact how_int rfl rfl
theorem zdo1 {a : Nat} (h : isD a) : hO (hp J s g) a 0 1 = some (.ref (a + 1)) := by
  rcases h with rfl | rfl | rfl
  · exact ho_ref rfl rfl
  · exact ho_ref rfl rfl
  · exact ho_ref rfl rfl
theorem zdl1 {a : Nat} (h : isD a) : hLen (hp J s g) (a + 1) = some (nI 160) := by
  rcases h with rfl | rfl | rfl
  · exact hl_arr rfl (by decide)
  · exact hl_arr rfl (by decide)
  · exact hl_arr rfl (by decide)
theorem zda1 {a : Nat} (h : isD a) {i : Nat} (hi : i < 160) : hA (hp J s g) (a + 1) 0 (nI i) = some (s (a + 1) i) := by
  rcases h with rfl | rfl | rfl
  · exact ha_get rfl (by decide) hi
  · exact ha_get rfl (by decide) hi
  · exact ha_get rfl (by decide) hi
theorem zds1 {a : Nat} (h : isD a) {i : Nat} {v : Int32} (hi : i < 160) : hAw (hp J s g) (a + 1) 0 (nI i) v = some (hp J (va_up s (a + 1) (va_up (s (a + 1)) i v)) g) := by
  rcases h with rfl | rfl | rfl
  · exact ha_set rfl (by decide) hi
  · exact ha_set rfl (by decide) hi
  · exact ha_set rfl (by decide) hi
def isP (a : Nat) : Prop := a = 17 ∨ a = 29 ∨ a = 43 ∨ a = 74
theorem zpc {a : Nat} (h : isP a) : hC (hp J s g) a = some 4 := by
  rcases h with rfl | rfl | rfl | rfl
  · exact hc_obj rfl
  · exact hc_obj rfl
  · exact hc_obj rfl
  · exact hc_obj rfl
theorem zpo0 {a : Nat} (h : isP a) : hO (hp J s g) a 4 0 = some (.int (s a 0)) := by
  rcases h with rfl | rfl | rfl | rfl
  · exact ho_int rfl rfl
  · exact ho_int rfl rfl
  · exact ho_int rfl rfl
  · exact ho_int rfl rfl
theorem zpw0 {a : Nat} (h : isP a) {v : Int32} : hOw (hp J s g) a 4 0 (.int v) = some (hp J (va_up s a (va_up (s a) 0 v)) g) := by
  rcases h with rfl | rfl | rfl | rfl
  · exact how_int rfl rfl
  · exact how_int rfl rfl
  · exact how_int rfl rfl
  · exact how_int rfl rfl
theorem zpo1 {a : Nat} (h : isP a) : hO (hp J s g) a 4 1 = some (.int (s a 1)) := by
  rcases h with rfl | rfl | rfl | rfl
  · exact ho_int rfl rfl
  · exact ho_int rfl rfl
  · exact ho_int rfl rfl
  · exact ho_int rfl rfl
theorem zpw1 {a : Nat} (h : isP a) {v : Int32} : hOw (hp J s g) a 4 1 (.int v) = some (hp J (va_up s a (va_up (s a) 1 v)) g) := by
  rcases h with rfl | rfl | rfl | rfl
  · exact how_int rfl rfl
  · exact how_int rfl rfl
  · exact how_int rfl rfl
  · exact how_int rfl rfl
theorem zpo2 {a : Nat} (h : isP a) : hO (hp J s g) a 4 2 = some (.int (s a 2)) := by
  rcases h with rfl | rfl | rfl | rfl
  · exact ho_int rfl rfl
  · exact ho_int rfl rfl
  · exact ho_int rfl rfl
  · exact ho_int rfl rfl
theorem zpw2 {a : Nat} (h : isP a) {v : Int32} : hOw (hp J s g) a 4 2 (.int v) = some (hp J (va_up s a (va_up (s a) 2 v)) g) := by
  rcases h with rfl | rfl | rfl | rfl
  · exact how_int rfl rfl
  · exact how_int rfl rfl
  · exact how_int rfl rfl
  · exact how_int rfl rfl
theorem zpo3 {a : Nat} (h : isP a) : hO (hp J s g) a 4 3 = some (.ref (a + 1)) := by
  rcases h with rfl | rfl | rfl | rfl
  · exact ho_ref rfl rfl
  · exact ho_ref rfl rfl
  · exact ho_ref rfl rfl
  · exact ho_ref rfl rfl
theorem zpl1 {a : Nat} (h : isP a) : hLen (hp J s g) (a + 1) = some (nI 36) := by
  rcases h with rfl | rfl | rfl | rfl
  · exact hl_arr rfl (by decide)
  · exact hl_arr rfl (by decide)
  · exact hl_arr rfl (by decide)
  · exact hl_arr rfl (by decide)
theorem zpa1 {a : Nat} (h : isP a) {i : Nat} (hi : i < 36) : hA (hp J s g) (a + 1) 0 (nI i) = some (s (a + 1) i) := by
  rcases h with rfl | rfl | rfl | rfl
  · exact ha_get rfl (by decide) hi
  · exact ha_get rfl (by decide) hi
  · exact ha_get rfl (by decide) hi
  · exact ha_get rfl (by decide) hi
theorem zps1 {a : Nat} (h : isP a) {i : Nat} {v : Int32} (hi : i < 36) : hAw (hp J s g) (a + 1) 0 (nI i) v = some (hp J (va_up s (a + 1) (va_up (s (a + 1)) i v)) g) := by
  rcases h with rfl | rfl | rfl | rfl
  · exact ha_set rfl (by decide) hi
  · exact ha_set rfl (by decide) hi
  · exact ha_set rfl (by decide) hi
  · exact ha_set rfl (by decide) hi
end CELLS
