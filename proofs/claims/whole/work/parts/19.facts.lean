/-! FACTS of each method, printed by wip/whole/rows.py: its class, its answer's type, its locals, its instructions -/
theorem mo_0 (pc : Nat) {i : Instr} (h : mt_0.lookup pc = some i) : mop 0 pc = some i := h
theorem mow_0 : mown 0 = 0 := by decide +kernel
theorem mrt_0 : mret 0 = (some .boolean) := by decide +kernel
theorem mmx_0 : mmax 0 = 4 := by decide +kernel
theorem mo_1 (pc : Nat) {i : Instr} (h : mt_1.lookup pc = some i) : mop 1 pc = some i := h
theorem mow_1 : mown 1 = 1 := by decide +kernel
theorem mrt_1 : mret 1 = none := by decide +kernel
theorem mmx_1 : mmax 1 = 1 := by decide +kernel
theorem mcs_1 : mcls 1 = some 9 := by decide +kernel
theorem mo_2 (pc : Nat) {i : Instr} (h : mt_2.lookup pc = some i) : mop 2 pc = some i := h
theorem mow_2 : mown 2 = 1 := by decide +kernel
theorem mrt_2 : mret 2 = (some .int) := by decide +kernel
theorem mmx_2 : mmax 2 = 6 := by decide +kernel
theorem mcs_2 : mcls 2 = some 9 := by decide +kernel
theorem mo_3 (pc : Nat) {i : Instr} (h : mt_3.lookup pc = some i) : mop 3 pc = some i := h
theorem mow_3 : mown 3 = 1 := by decide +kernel
theorem mrt_3 : mret 3 = (some .int) := by decide +kernel
theorem mmx_3 : mmax 3 = 2 := by decide +kernel
theorem mcs_3 : mcls 3 = some 9 := by decide +kernel
theorem mo_4 (pc : Nat) {i : Instr} (h : mt_4.lookup pc = some i) : mop 4 pc = some i := h
theorem mow_4 : mown 4 = 1 := by decide +kernel
theorem mrt_4 : mret 4 = (some .int) := by decide +kernel
theorem mmx_4 : mmax 4 = 7 := by decide +kernel
theorem mcs_4 : mcls 4 = some 9 := by decide +kernel
theorem mo_5 (pc : Nat) {i : Instr} (h : mt_5.lookup pc = some i) : mop 5 pc = some i := h
theorem mow_5 : mown 5 = 1 := by decide +kernel
theorem mrt_5 : mret 5 = none := by decide +kernel
theorem mmx_5 : mmax 5 = 3 := by decide +kernel
theorem mcs_5 : mcls 5 = some 9 := by decide +kernel
theorem mo_6 (pc : Nat) {i : Instr} (h : mt_6.lookup pc = some i) : mop 6 pc = some i := h
theorem mow_6 : mown 6 = 1 := by decide +kernel
theorem mrt_6 : mret 6 = (some .int) := by decide +kernel
theorem mmx_6 : mmax 6 = 2 := by decide +kernel
theorem mcs_6 : mcls 6 = some 9 := by decide +kernel
theorem mo_7 (pc : Nat) {i : Instr} (h : mt_7.lookup pc = some i) : mop 7 pc = some i := h
theorem mow_7 : mown 7 = 1 := by decide +kernel
theorem mrt_7 : mret 7 = (some .int) := by decide +kernel
theorem mmx_7 : mmax 7 = 6 := by decide +kernel
theorem mcs_7 : mcls 7 = some 9 := by decide +kernel
theorem mo_8 (pc : Nat) {i : Instr} (h : mt_8.lookup pc = some i) : mop 8 pc = some i := h
theorem mow_8 : mown 8 = 1 := by decide +kernel
theorem mrt_8 : mret 8 = (some (.object "BreadTalk$Town")) := by decide +kernel
theorem mmx_8 : mmax 8 = 3 := by decide +kernel
theorem mcs_8 : mcls 8 = some 9 := by decide +kernel
theorem mo_9 (pc : Nat) {i : Instr} (h : mt_9.lookup pc = some i) : mop 9 pc = some i := h
theorem mow_9 : mown 9 = 1 := by decide +kernel
theorem mrt_9 : mret 9 = (some .int) := by decide +kernel
theorem mmx_9 : mmax 9 = 5 := by decide +kernel
theorem mcs_9 : mcls 9 = some 9 := by decide +kernel
theorem mo_10 (pc : Nat) {i : Instr} (h : mt_10.lookup pc = some i) : mop 10 pc = some i := h
theorem mow_10 : mown 10 = 1 := by decide +kernel
theorem mrt_10 : mret 10 = (some .int) := by decide +kernel
theorem mmx_10 : mmax 10 = 5 := by decide +kernel
theorem mcs_10 : mcls 10 = some 9 := by decide +kernel
theorem mo_11 (pc : Nat) {i : Instr} (h : mt_11.lookup pc = some i) : mop 11 pc = some i := h
theorem mow_11 : mown 11 = 1 := by decide +kernel
theorem mrt_11 : mret 11 = (some .int) := by decide +kernel
theorem mmx_11 : mmax 11 = 5 := by decide +kernel
theorem mcs_11 : mcls 11 = some 9 := by decide +kernel
theorem mo_12 (pc : Nat) {i : Instr} (h : mt_12.lookup pc = some i) : mop 12 pc = some i := h
theorem mow_12 : mown 12 = 1 := by decide +kernel
theorem mrt_12 : mret 12 = (some (.object "BreadTalk$Days")) := by decide +kernel
theorem mmx_12 : mmax 12 = 3 := by decide +kernel
theorem mcs_12 : mcls 12 = some 9 := by decide +kernel
theorem mo_13 (pc : Nat) {i : Instr} (h : mt_13.lookup pc = some i) : mop 13 pc = some i := h
theorem mow_13 : mown 13 = 1 := by decide +kernel
theorem mrt_13 : mret 13 = (some .int) := by decide +kernel
theorem mmx_13 : mmax 13 = 5 := by decide +kernel
theorem mcs_13 : mcls 13 = some 9 := by decide +kernel
theorem mo_14 (pc : Nat) {i : Instr} (h : mt_14.lookup pc = some i) : mop 14 pc = some i := h
theorem mow_14 : mown 14 = 1 := by decide +kernel
theorem mrt_14 : mret 14 = (some .int) := by decide +kernel
theorem mmx_14 : mmax 14 = 2 := by decide +kernel
theorem mo_15 (pc : Nat) {i : Instr} (h : mt_15.lookup pc = some i) : mop 15 pc = some i := h
theorem mow_15 : mown 15 = 1 := by decide +kernel
theorem mrt_15 : mret 15 = (some .int) := by decide +kernel
theorem mmx_15 : mmax 15 = 7 := by decide +kernel
theorem mcs_15 : mcls 15 = some 9 := by decide +kernel
theorem mo_16 (pc : Nat) {i : Instr} (h : mt_16.lookup pc = some i) : mop 16 pc = some i := h
theorem mow_16 : mown 16 = 1 := by decide +kernel
theorem mrt_16 : mret 16 = (some .int) := by decide +kernel
theorem mmx_16 : mmax 16 = 6 := by decide +kernel
theorem mcs_16 : mcls 16 = some 9 := by decide +kernel
theorem mo_17 (pc : Nat) {i : Instr} (h : mt_17.lookup pc = some i) : mop 17 pc = some i := h
theorem mow_17 : mown 17 = 1 := by decide +kernel
theorem mrt_17 : mret 17 = (some .int) := by decide +kernel
theorem mmx_17 : mmax 17 = 7 := by decide +kernel
theorem mcs_17 : mcls 17 = some 9 := by decide +kernel
theorem mo_18 (pc : Nat) {i : Instr} (h : mt_18.lookup pc = some i) : mop 18 pc = some i := h
theorem mow_18 : mown 18 = 1 := by decide +kernel
theorem mrt_18 : mret 18 = (some .int) := by decide +kernel
theorem mmx_18 : mmax 18 = 4 := by decide +kernel
theorem mcs_18 : mcls 18 = some 9 := by decide +kernel
theorem mo_19 (pc : Nat) {i : Instr} (h : mt_19.lookup pc = some i) : mop 19 pc = some i := h
theorem mow_19 : mown 19 = 1 := by decide +kernel
theorem mrt_19 : mret 19 = (some .int) := by decide +kernel
theorem mmx_19 : mmax 19 = 5 := by decide +kernel
theorem mcs_19 : mcls 19 = some 9 := by decide +kernel
theorem mo_20 (pc : Nat) {i : Instr} (h : mt_20.lookup pc = some i) : mop 20 pc = some i := h
theorem mow_20 : mown 20 = 1 := by decide +kernel
theorem mrt_20 : mret 20 = (some .int) := by decide +kernel
theorem mmx_20 : mmax 20 = 5 := by decide +kernel
theorem mcs_20 : mcls 20 = some 9 := by decide +kernel
theorem mo_21 (pc : Nat) {i : Instr} (h : mt_21.lookup pc = some i) : mop 21 pc = some i := h
theorem mow_21 : mown 21 = 1 := by decide +kernel
theorem mrt_21 : mret 21 = (some .int) := by decide +kernel
theorem mmx_21 : mmax 21 = 8 := by decide +kernel
theorem mcs_21 : mcls 21 = some 9 := by decide +kernel
theorem mo_22 (pc : Nat) {i : Instr} (h : mt_22.lookup pc = some i) : mop 22 pc = some i := h
theorem mow_22 : mown 22 = 1 := by decide +kernel
theorem mrt_22 : mret 22 = (some .int) := by decide +kernel
theorem mmx_22 : mmax 22 = 7 := by decide +kernel
theorem mcs_22 : mcls 22 = some 9 := by decide +kernel
theorem mo_23 (pc : Nat) {i : Instr} (h : mt_23.lookup pc = some i) : mop 23 pc = some i := h
theorem mow_23 : mown 23 = 1 := by decide +kernel
theorem mrt_23 : mret 23 = (some .boolean) := by decide +kernel
theorem mmx_23 : mmax 23 = 1 := by decide +kernel
theorem mo_24 (pc : Nat) {i : Instr} (h : mt_24.lookup pc = some i) : mop 24 pc = some i := h
theorem mow_24 : mown 24 = 1 := by decide +kernel
theorem mrt_24 : mret 24 = (some .int) := by decide +kernel
theorem mmx_24 : mmax 24 = 5 := by decide +kernel
theorem mcs_24 : mcls 24 = some 9 := by decide +kernel
theorem mo_25 (pc : Nat) {i : Instr} (h : mt_25.lookup pc = some i) : mop 25 pc = some i := h
theorem mow_25 : mown 25 = 1 := by decide +kernel
theorem mrt_25 : mret 25 = (some .int) := by decide +kernel
theorem mmx_25 : mmax 25 = 5 := by decide +kernel
theorem mcs_25 : mcls 25 = some 9 := by decide +kernel
theorem mo_26 (pc : Nat) {i : Instr} (h : mt_26.lookup pc = some i) : mop 26 pc = some i := h
theorem mow_26 : mown 26 = 1 := by decide +kernel
theorem mrt_26 : mret 26 = (some (.object "BreadTalk$Plate")) := by decide +kernel
theorem mmx_26 : mmax 26 = 3 := by decide +kernel
theorem mcs_26 : mcls 26 = some 9 := by decide +kernel
theorem mo_27 (pc : Nat) {i : Instr} (h : mt_27.lookup pc = some i) : mop 27 pc = some i := h
theorem mow_27 : mown 27 = 1 := by decide +kernel
theorem mrt_27 : mret 27 = (some .long) := by decide +kernel
theorem mmx_27 : mmax 27 = 6 := by decide +kernel
theorem mcs_27 : mcls 27 = some 9 := by decide +kernel
theorem mo_28 (pc : Nat) {i : Instr} (h : mt_28.lookup pc = some i) : mop 28 pc = some i := h
theorem mow_28 : mown 28 = 1 := by decide +kernel
theorem mrt_28 : mret 28 = (some .long) := by decide +kernel
theorem mmx_28 : mmax 28 = 11 := by decide +kernel
theorem mcs_28 : mcls 28 = some 9 := by decide +kernel
theorem mo_29 (pc : Nat) {i : Instr} (h : mt_29.lookup pc = some i) : mop 29 pc = some i := h
theorem mow_29 : mown 29 = 1 := by decide +kernel
theorem mrt_29 : mret 29 = (some .int) := by decide +kernel
theorem mmx_29 : mmax 29 = 4 := by decide +kernel
theorem mcs_29 : mcls 29 = some 9 := by decide +kernel
theorem mo_30 (pc : Nat) {i : Instr} (h : mt_30.lookup pc = some i) : mop 30 pc = some i := h
theorem mow_30 : mown 30 = 1 := by decide +kernel
theorem mrt_30 : mret 30 = (some .int) := by decide +kernel
theorem mmx_30 : mmax 30 = 7 := by decide +kernel
theorem mcs_30 : mcls 30 = some 9 := by decide +kernel
theorem mo_31 (pc : Nat) {i : Instr} (h : mt_31.lookup pc = some i) : mop 31 pc = some i := h
theorem mow_31 : mown 31 = 1 := by decide +kernel
theorem mrt_31 : mret 31 = none := by decide +kernel
theorem mmx_31 : mmax 31 = 5 := by decide +kernel
theorem mcs_31 : mcls 31 = some 9 := by decide +kernel
theorem mo_32 (pc : Nat) {i : Instr} (h : mt_32.lookup pc = some i) : mop 32 pc = some i := h
theorem mow_32 : mown 32 = 1 := by decide +kernel
theorem mrt_32 : mret 32 = (some .int) := by decide +kernel
theorem mmx_32 : mmax 32 = 2 := by decide +kernel
theorem mcs_32 : mcls 32 = some 9 := by decide +kernel
theorem mo_33 (pc : Nat) {i : Instr} (h : mt_33.lookup pc = some i) : mop 33 pc = some i := h
theorem mow_33 : mown 33 = 1 := by decide +kernel
theorem mrt_33 : mret 33 = (some .int) := by decide +kernel
theorem mmx_33 : mmax 33 = 5 := by decide +kernel
theorem mcs_33 : mcls 33 = some 9 := by decide +kernel
theorem mo_34 (pc : Nat) {i : Instr} (h : mt_34.lookup pc = some i) : mop 34 pc = some i := h
theorem mow_34 : mown 34 = 1 := by decide +kernel
theorem mrt_34 : mret 34 = (some .int) := by decide +kernel
theorem mmx_34 : mmax 34 = 5 := by decide +kernel
theorem mcs_34 : mcls 34 = some 9 := by decide +kernel
theorem mo_35 (pc : Nat) {i : Instr} (h : mt_35.lookup pc = some i) : mop 35 pc = some i := h
theorem mow_35 : mown 35 = 1 := by decide +kernel
theorem mrt_35 : mret 35 = (some .int) := by decide +kernel
theorem mmx_35 : mmax 35 = 4 := by decide +kernel
theorem mcs_35 : mcls 35 = some 9 := by decide +kernel
theorem mo_36 (pc : Nat) {i : Instr} (h : mt_36.lookup pc = some i) : mop 36 pc = some i := h
theorem mow_36 : mown 36 = 1 := by decide +kernel
theorem mrt_36 : mret 36 = (some .int) := by decide +kernel
theorem mmx_36 : mmax 36 = 7 := by decide +kernel
theorem mcs_36 : mcls 36 = some 9 := by decide +kernel
theorem mo_37 (pc : Nat) {i : Instr} (h : mt_37.lookup pc = some i) : mop 37 pc = some i := h
theorem mow_37 : mown 37 = 1 := by decide +kernel
theorem mrt_37 : mret 37 = (some .int) := by decide +kernel
theorem mmx_37 : mmax 37 = 2 := by decide +kernel
theorem mcs_37 : mcls 37 = some 9 := by decide +kernel
theorem mo_38 (pc : Nat) {i : Instr} (h : mt_38.lookup pc = some i) : mop 38 pc = some i := h
theorem mow_38 : mown 38 = 1 := by decide +kernel
theorem mrt_38 : mret 38 = (some .boolean) := by decide +kernel
theorem mmx_38 : mmax 38 = 3 := by decide +kernel
theorem mcs_38 : mcls 38 = some 9 := by decide +kernel
theorem mo_39 (pc : Nat) {i : Instr} (h : mt_39.lookup pc = some i) : mop 39 pc = some i := h
theorem mow_39 : mown 39 = 1 := by decide +kernel
theorem mrt_39 : mret 39 = (some .boolean) := by decide +kernel
theorem mmx_39 : mmax 39 = 3 := by decide +kernel
theorem mcs_39 : mcls 39 = some 9 := by decide +kernel
theorem mo_40 (pc : Nat) {i : Instr} (h : mt_40.lookup pc = some i) : mop 40 pc = some i := h
theorem mow_40 : mown 40 = 2 := by decide +kernel
theorem mrt_40 : mret 40 = (some .boolean) := by decide +kernel
theorem mmx_40 : mmax 40 = 2 := by decide +kernel
theorem mo_41 (pc : Nat) {i : Instr} (h : mt_41.lookup pc = some i) : mop 41 pc = some i := h
theorem mow_41 : mown 41 = 2 := by decide +kernel
theorem mrt_41 : mret 41 = (some .long) := by decide +kernel
theorem mmx_41 : mmax 41 = 6 := by decide +kernel
theorem mo_42 (pc : Nat) {i : Instr} (h : mt_42.lookup pc = some i) : mop 42 pc = some i := h
theorem mow_42 : mown 42 = 2 := by decide +kernel
theorem mrt_42 : mret 42 = (some .long) := by decide +kernel
theorem mmx_42 : mmax 42 = 6 := by decide +kernel
theorem mo_43 (pc : Nat) {i : Instr} (h : mt_43.lookup pc = some i) : mop 43 pc = some i := h
theorem mow_43 : mown 43 = 2 := by decide +kernel
theorem mrt_43 : mret 43 = (some .long) := by decide +kernel
theorem mmx_43 : mmax 43 = 6 := by decide +kernel
theorem mo_44 (pc : Nat) {i : Instr} (h : mt_44.lookup pc = some i) : mop 44 pc = some i := h
theorem mow_44 : mown 44 = 2 := by decide +kernel
theorem mrt_44 : mret 44 = (some .long) := by decide +kernel
theorem mmx_44 : mmax 44 = 11 := by decide +kernel
theorem mo_45 (pc : Nat) {i : Instr} (h : mt_45.lookup pc = some i) : mop 45 pc = some i := h
theorem mow_45 : mown 45 = 2 := by decide +kernel
theorem mrt_45 : mret 45 = (some .int) := by decide +kernel
theorem mmx_45 : mmax 45 = 11 := by decide +kernel
theorem mo_46 (pc : Nat) {i : Instr} (h : mt_46.lookup pc = some i) : mop 46 pc = some i := h
theorem mow_46 : mown 46 = 3 := by decide +kernel
theorem mrt_46 : mret 46 = none := by decide +kernel
theorem mmx_46 : mmax 46 = 1 := by decide +kernel
theorem mcs_46 : mcls 46 = some 0 := by decide +kernel
theorem mo_47 (pc : Nat) {i : Instr} (h : mt_47.lookup pc = some i) : mop 47 pc = some i := h
theorem mow_47 : mown 47 = 3 := by decide +kernel
theorem mrt_47 : mret 47 = none := by decide +kernel
theorem mmx_47 : mmax 47 = 1 := by decide +kernel
theorem mcs_47 : mcls 47 = some 0 := by decide +kernel
theorem mo_48 (pc : Nat) {i : Instr} (h : mt_48.lookup pc = some i) : mop 48 pc = some i := h
theorem mow_48 : mown 48 = 3 := by decide +kernel
theorem mrt_48 : mret 48 = none := by decide +kernel
theorem mmx_48 : mmax 48 = 2 := by decide +kernel
theorem mcs_48 : mcls 48 = some 0 := by decide +kernel
theorem mo_49 (pc : Nat) {i : Instr} (h : mt_49.lookup pc = some i) : mop 49 pc = some i := h
theorem mow_49 : mown 49 = 4 := by decide +kernel
theorem mrt_49 : mret 49 = none := by decide +kernel
theorem mmx_49 : mmax 49 = 1 := by decide +kernel
theorem mcs_49 : mcls 49 = some 1 := by decide +kernel
theorem mo_50 (pc : Nat) {i : Instr} (h : mt_50.lookup pc = some i) : mop 50 pc = some i := h
theorem mow_50 : mown 50 = 4 := by decide +kernel
theorem mrt_50 : mret 50 = none := by decide +kernel
theorem mmx_50 : mmax 50 = 5 := by decide +kernel
theorem mcs_50 : mcls 50 = some 1 := by decide +kernel
theorem mo_51 (pc : Nat) {i : Instr} (h : mt_51.lookup pc = some i) : mop 51 pc = some i := h
theorem mow_51 : mown 51 = 4 := by decide +kernel
theorem mrt_51 : mret 51 = none := by decide +kernel
theorem mmx_51 : mmax 51 = 5 := by decide +kernel
theorem mcs_51 : mcls 51 = some 1 := by decide +kernel
theorem mo_52 (pc : Nat) {i : Instr} (h : mt_52.lookup pc = some i) : mop 52 pc = some i := h
theorem mow_52 : mown 52 = 4 := by decide +kernel
theorem mrt_52 : mret 52 = none := by decide +kernel
theorem mmx_52 : mmax 52 = 3 := by decide +kernel
theorem mcs_52 : mcls 52 = some 1 := by decide +kernel
theorem mo_53 (pc : Nat) {i : Instr} (h : mt_53.lookup pc = some i) : mop 53 pc = some i := h
theorem mow_53 : mown 53 = 4 := by decide +kernel
theorem mrt_53 : mret 53 = none := by decide +kernel
theorem mmx_53 : mmax 53 = 4 := by decide +kernel
theorem mcs_53 : mcls 53 = some 1 := by decide +kernel
theorem mo_54 (pc : Nat) {i : Instr} (h : mt_54.lookup pc = some i) : mop 54 pc = some i := h
theorem mow_54 : mown 54 = 4 := by decide +kernel
theorem mrt_54 : mret 54 = (some .int) := by decide +kernel
theorem mmx_54 : mmax 54 = 2 := by decide +kernel
theorem mcs_54 : mcls 54 = some 1 := by decide +kernel
theorem mo_55 (pc : Nat) {i : Instr} (h : mt_55.lookup pc = some i) : mop 55 pc = some i := h
theorem mow_55 : mown 55 = 4 := by decide +kernel
theorem mrt_55 : mret 55 = (some .int) := by decide +kernel
theorem mmx_55 : mmax 55 = 3 := by decide +kernel
theorem mcs_55 : mcls 55 = some 1 := by decide +kernel
theorem mo_56 (pc : Nat) {i : Instr} (h : mt_56.lookup pc = some i) : mop 56 pc = some i := h
theorem mow_56 : mown 56 = 4 := by decide +kernel
theorem mrt_56 : mret 56 = (some .int) := by decide +kernel
theorem mmx_56 : mmax 56 = 5 := by decide +kernel
theorem mcs_56 : mcls 56 = some 1 := by decide +kernel
theorem mo_57 (pc : Nat) {i : Instr} (h : mt_57.lookup pc = some i) : mop 57 pc = some i := h
theorem mow_57 : mown 57 = 4 := by decide +kernel
theorem mrt_57 : mret 57 = (some .int) := by decide +kernel
theorem mmx_57 : mmax 57 = 6 := by decide +kernel
theorem mcs_57 : mcls 57 = some 1 := by decide +kernel
theorem mo_58 (pc : Nat) {i : Instr} (h : mt_58.lookup pc = some i) : mop 58 pc = some i := h
theorem mow_58 : mown 58 = 4 := by decide +kernel
theorem mrt_58 : mret 58 = (some .int) := by decide +kernel
theorem mmx_58 : mmax 58 = 6 := by decide +kernel
theorem mcs_58 : mcls 58 = some 1 := by decide +kernel
theorem mo_59 (pc : Nat) {i : Instr} (h : mt_59.lookup pc = some i) : mop 59 pc = some i := h
theorem mow_59 : mown 59 = 4 := by decide +kernel
theorem mrt_59 : mret 59 = (some .int) := by decide +kernel
theorem mmx_59 : mmax 59 = 3 := by decide +kernel
theorem mcs_59 : mcls 59 = some 1 := by decide +kernel
theorem mo_60 (pc : Nat) {i : Instr} (h : mt_60.lookup pc = some i) : mop 60 pc = some i := h
theorem mow_60 : mown 60 = 4 := by decide +kernel
theorem mrt_60 : mret 60 = (some .int) := by decide +kernel
theorem mmx_60 : mmax 60 = 3 := by decide +kernel
theorem mcs_60 : mcls 60 = some 1 := by decide +kernel
theorem mo_61 (pc : Nat) {i : Instr} (h : mt_61.lookup pc = some i) : mop 61 pc = some i := h
theorem mow_61 : mown 61 = 5 := by decide +kernel
theorem mrt_61 : mret 61 = none := by decide +kernel
theorem mmx_61 : mmax 61 = 1 := by decide +kernel
theorem mcs_61 : mcls 61 = some 2 := by decide +kernel
theorem mo_62 (pc : Nat) {i : Instr} (h : mt_62.lookup pc = some i) : mop 62 pc = some i := h
theorem mow_62 : mown 62 = 5 := by decide +kernel
theorem mrt_62 : mret 62 = (some .int) := by decide +kernel
theorem mmx_62 : mmax 62 = 7 := by decide +kernel
theorem mo_63 (pc : Nat) {i : Instr} (h : mt_63.lookup pc = some i) : mop 63 pc = some i := h
theorem mow_63 : mown 63 = 5 := by decide +kernel
theorem mrt_63 : mret 63 = none := by decide +kernel
theorem mmx_63 : mmax 63 = 6 := by decide +kernel
theorem mcs_63 : mcls 63 = some 2 := by decide +kernel
theorem mo_64 (pc : Nat) {i : Instr} (h : mt_64.lookup pc = some i) : mop 64 pc = some i := h
theorem mow_64 : mown 64 = 5 := by decide +kernel
theorem mrt_64 : mret 64 = (some .int) := by decide +kernel
theorem mmx_64 : mmax 64 = 4 := by decide +kernel
theorem mcs_64 : mcls 64 = some 2 := by decide +kernel
theorem mo_65 (pc : Nat) {i : Instr} (h : mt_65.lookup pc = some i) : mop 65 pc = some i := h
theorem mow_65 : mown 65 = 5 := by decide +kernel
theorem mrt_65 : mret 65 = (some .boolean) := by decide +kernel
theorem mmx_65 : mmax 65 = 3 := by decide +kernel
theorem mcs_65 : mcls 65 = some 2 := by decide +kernel
theorem mo_66 (pc : Nat) {i : Instr} (h : mt_66.lookup pc = some i) : mop 66 pc = some i := h
theorem mow_66 : mown 66 = 6 := by decide +kernel
theorem mrt_66 : mret 66 = none := by decide +kernel
theorem mmx_66 : mmax 66 = 2 := by decide +kernel
theorem mcs_66 : mcls 66 = some 3 := by decide +kernel
theorem mo_67 (pc : Nat) {i : Instr} (h : mt_67.lookup pc = some i) : mop 67 pc = some i := h
theorem mow_67 : mown 67 = 6 := by decide +kernel
theorem mrt_67 : mret 67 = none := by decide +kernel
theorem mmx_67 : mmax 67 = 3 := by decide +kernel
theorem mcs_67 : mcls 67 = some 3 := by decide +kernel
theorem mo_68 (pc : Nat) {i : Instr} (h : mt_68.lookup pc = some i) : mop 68 pc = some i := h
theorem mow_68 : mown 68 = 6 := by decide +kernel
theorem mrt_68 : mret 68 = none := by decide +kernel
theorem mmx_68 : mmax 68 = 5 := by decide +kernel
theorem mcs_68 : mcls 68 = some 3 := by decide +kernel
theorem mo_69 (pc : Nat) {i : Instr} (h : mt_69.lookup pc = some i) : mop 69 pc = some i := h
theorem mow_69 : mown 69 = 6 := by decide +kernel
theorem mrt_69 : mret 69 = none := by decide +kernel
theorem mmx_69 : mmax 69 = 6 := by decide +kernel
theorem mcs_69 : mcls 69 = some 3 := by decide +kernel
theorem mo_70 (pc : Nat) {i : Instr} (h : mt_70.lookup pc = some i) : mop 70 pc = some i := h
theorem mow_70 : mown 70 = 6 := by decide +kernel
theorem mrt_70 : mret 70 = (some .int) := by decide +kernel
theorem mmx_70 : mmax 70 = 3 := by decide +kernel
theorem mcs_70 : mcls 70 = some 3 := by decide +kernel
theorem mo_71 (pc : Nat) {i : Instr} (h : mt_71.lookup pc = some i) : mop 71 pc = some i := h
theorem mow_71 : mown 71 = 6 := by decide +kernel
theorem mrt_71 : mret 71 = (some .int) := by decide +kernel
theorem mmx_71 : mmax 71 = 4 := by decide +kernel
theorem mcs_71 : mcls 71 = some 3 := by decide +kernel
theorem mo_72 (pc : Nat) {i : Instr} (h : mt_72.lookup pc = some i) : mop 72 pc = some i := h
theorem mow_72 : mown 72 = 6 := by decide +kernel
theorem mrt_72 : mret 72 = none := by decide +kernel
theorem mmx_72 : mmax 72 = 4 := by decide +kernel
theorem mcs_72 : mcls 72 = some 3 := by decide +kernel
theorem mo_73 (pc : Nat) {i : Instr} (h : mt_73.lookup pc = some i) : mop 73 pc = some i := h
theorem mow_73 : mown 73 = 6 := by decide +kernel
theorem mrt_73 : mret 73 = none := by decide +kernel
theorem mmx_73 : mmax 73 = 3 := by decide +kernel
theorem mcs_73 : mcls 73 = some 3 := by decide +kernel
theorem mo_74 (pc : Nat) {i : Instr} (h : mt_74.lookup pc = some i) : mop 74 pc = some i := h
theorem mow_74 : mown 74 = 6 := by decide +kernel
theorem mrt_74 : mret 74 = none := by decide +kernel
theorem mmx_74 : mmax 74 = 7 := by decide +kernel
theorem mcs_74 : mcls 74 = some 3 := by decide +kernel
theorem mo_75 (pc : Nat) {i : Instr} (h : mt_75.lookup pc = some i) : mop 75 pc = some i := h
theorem mow_75 : mown 75 = 6 := by decide +kernel
theorem mrt_75 : mret 75 = (some .int) := by decide +kernel
theorem mmx_75 : mmax 75 = 3 := by decide +kernel
theorem mcs_75 : mcls 75 = some 3 := by decide +kernel
theorem mo_76 (pc : Nat) {i : Instr} (h : mt_76.lookup pc = some i) : mop 76 pc = some i := h
theorem mow_76 : mown 76 = 6 := by decide +kernel
theorem mrt_76 : mret 76 = (some .int) := by decide +kernel
theorem mmx_76 : mmax 76 = 4 := by decide +kernel
theorem mcs_76 : mcls 76 = some 3 := by decide +kernel
theorem mo_77 (pc : Nat) {i : Instr} (h : mt_77.lookup pc = some i) : mop 77 pc = some i := h
theorem mow_77 : mown 77 = 6 := by decide +kernel
theorem mrt_77 : mret 77 = none := by decide +kernel
theorem mmx_77 : mmax 77 = 2 := by decide +kernel
theorem mcs_77 : mcls 77 = some 3 := by decide +kernel
theorem mo_78 (pc : Nat) {i : Instr} (h : mt_78.lookup pc = some i) : mop 78 pc = some i := h
theorem mow_78 : mown 78 = 6 := by decide +kernel
theorem mrt_78 : mret 78 = none := by decide +kernel
theorem mmx_78 : mmax 78 = 5 := by decide +kernel
theorem mcs_78 : mcls 78 = some 3 := by decide +kernel
theorem mo_79 (pc : Nat) {i : Instr} (h : mt_79.lookup pc = some i) : mop 79 pc = some i := h
theorem mow_79 : mown 79 = 6 := by decide +kernel
theorem mrt_79 : mret 79 = (some .boolean) := by decide +kernel
theorem mmx_79 : mmax 79 = 4 := by decide +kernel
theorem mcs_79 : mcls 79 = some 3 := by decide +kernel
theorem mo_80 (pc : Nat) {i : Instr} (h : mt_80.lookup pc = some i) : mop 80 pc = some i := h
theorem mow_80 : mown 80 = 6 := by decide +kernel
theorem mrt_80 : mret 80 = (some .boolean) := by decide +kernel
theorem mmx_80 : mmax 80 = 5 := by decide +kernel
theorem mcs_80 : mcls 80 = some 3 := by decide +kernel
theorem mo_81 (pc : Nat) {i : Instr} (h : mt_81.lookup pc = some i) : mop 81 pc = some i := h
theorem mow_81 : mown 81 = 7 := by decide +kernel
theorem mrt_81 : mret 81 = none := by decide +kernel
theorem mmx_81 : mmax 81 = 1 := by decide +kernel
theorem mcs_81 : mcls 81 = some 4 := by decide +kernel
theorem mo_82 (pc : Nat) {i : Instr} (h : mt_82.lookup pc = some i) : mop 82 pc = some i := h
theorem mow_82 : mown 82 = 7 := by decide +kernel
theorem mrt_82 : mret 82 = none := by decide +kernel
theorem mmx_82 : mmax 82 = 1 := by decide +kernel
theorem mcs_82 : mcls 82 = some 4 := by decide +kernel
theorem mo_83 (pc : Nat) {i : Instr} (h : mt_83.lookup pc = some i) : mop 83 pc = some i := h
theorem mow_83 : mown 83 = 7 := by decide +kernel
theorem mrt_83 : mret 83 = none := by decide +kernel
theorem mmx_83 : mmax 83 = 2 := by decide +kernel
theorem mcs_83 : mcls 83 = some 4 := by decide +kernel
theorem mo_84 (pc : Nat) {i : Instr} (h : mt_84.lookup pc = some i) : mop 84 pc = some i := h
theorem mow_84 : mown 84 = 7 := by decide +kernel
theorem mrt_84 : mret 84 = (some .int) := by decide +kernel
theorem mmx_84 : mmax 84 = 2 := by decide +kernel
theorem mcs_84 : mcls 84 = some 4 := by decide +kernel
theorem mo_85 (pc : Nat) {i : Instr} (h : mt_85.lookup pc = some i) : mop 85 pc = some i := h
theorem mow_85 : mown 85 = 8 := by decide +kernel
theorem mrt_85 : mret 85 = none := by decide +kernel
theorem mmx_85 : mmax 85 = 1 := by decide +kernel
theorem mcs_85 : mcls 85 = some 5 := by decide +kernel
theorem mo_86 (pc : Nat) {i : Instr} (h : mt_86.lookup pc = some i) : mop 86 pc = some i := h
theorem mow_86 : mown 86 = 8 := by decide +kernel
theorem mrt_86 : mret 86 = none := by decide +kernel
theorem mmx_86 : mmax 86 = 4 := by decide +kernel
theorem mcs_86 : mcls 86 = some 5 := by decide +kernel
theorem mo_87 (pc : Nat) {i : Instr} (h : mt_87.lookup pc = some i) : mop 87 pc = some i := h
theorem mow_87 : mown 87 = 8 := by decide +kernel
theorem mrt_87 : mret 87 = none := by decide +kernel
theorem mmx_87 : mmax 87 = 2 := by decide +kernel
theorem mcs_87 : mcls 87 = some 5 := by decide +kernel
theorem mo_88 (pc : Nat) {i : Instr} (h : mt_88.lookup pc = some i) : mop 88 pc = some i := h
theorem mow_88 : mown 88 = 8 := by decide +kernel
theorem mrt_88 : mret 88 = none := by decide +kernel
theorem mmx_88 : mmax 88 = 1 := by decide +kernel
theorem mcs_88 : mcls 88 = some 5 := by decide +kernel
theorem mo_89 (pc : Nat) {i : Instr} (h : mt_89.lookup pc = some i) : mop 89 pc = some i := h
theorem mow_89 : mown 89 = 8 := by decide +kernel
theorem mrt_89 : mret 89 = (some .boolean) := by decide +kernel
theorem mmx_89 : mmax 89 = 1 := by decide +kernel
theorem mo_90 (pc : Nat) {i : Instr} (h : mt_90.lookup pc = some i) : mop 90 pc = some i := h
theorem mow_90 : mown 90 = 8 := by decide +kernel
theorem mrt_90 : mret 90 = none := by decide +kernel
theorem mmx_90 : mmax 90 = 2 := by decide +kernel
theorem mcs_90 : mcls 90 = some 5 := by decide +kernel
theorem mo_91 (pc : Nat) {i : Instr} (h : mt_91.lookup pc = some i) : mop 91 pc = some i := h
theorem mow_91 : mown 91 = 8 := by decide +kernel
theorem mrt_91 : mret 91 = (some .boolean) := by decide +kernel
theorem mmx_91 : mmax 91 = 1 := by decide +kernel
theorem mo_92 (pc : Nat) {i : Instr} (h : mt_92.lookup pc = some i) : mop 92 pc = some i := h
theorem mow_92 : mown 92 = 8 := by decide +kernel
theorem mrt_92 : mret 92 = none := by decide +kernel
theorem mmx_92 : mmax 92 = 4 := by decide +kernel
theorem mcs_92 : mcls 92 = some 5 := by decide +kernel
theorem mo_93 (pc : Nat) {i : Instr} (h : mt_93.lookup pc = some i) : mop 93 pc = some i := h
theorem mow_93 : mown 93 = 8 := by decide +kernel
theorem mrt_93 : mret 93 = (some .boolean) := by decide +kernel
theorem mmx_93 : mmax 93 = 3 := by decide +kernel
theorem mcs_93 : mcls 93 = some 5 := by decide +kernel
theorem mo_94 (pc : Nat) {i : Instr} (h : mt_94.lookup pc = some i) : mop 94 pc = some i := h
theorem mow_94 : mown 94 = 8 := by decide +kernel
theorem mrt_94 : mret 94 = (some .boolean) := by decide +kernel
theorem mmx_94 : mmax 94 = 4 := by decide +kernel
theorem mcs_94 : mcls 94 = some 5 := by decide +kernel
theorem mo_95 (pc : Nat) {i : Instr} (h : mt_95.lookup pc = some i) : mop 95 pc = some i := h
theorem mow_95 : mown 95 = 8 := by decide +kernel
theorem mrt_95 : mret 95 = (some .boolean) := by decide +kernel
theorem mmx_95 : mmax 95 = 2 := by decide +kernel
theorem mcs_95 : mcls 95 = some 5 := by decide +kernel
theorem mo_96 (pc : Nat) {i : Instr} (h : mt_96.lookup pc = some i) : mop 96 pc = some i := h
theorem mow_96 : mown 96 = 8 := by decide +kernel
theorem mrt_96 : mret 96 = (some .boolean) := by decide +kernel
theorem mmx_96 : mmax 96 = 2 := by decide +kernel
theorem mcs_96 : mcls 96 = some 5 := by decide +kernel
theorem mo_97 (pc : Nat) {i : Instr} (h : mt_97.lookup pc = some i) : mop 97 pc = some i := h
theorem mow_97 : mown 97 = 8 := by decide +kernel
theorem mrt_97 : mret 97 = none := by decide +kernel
theorem mmx_97 : mmax 97 = 3 := by decide +kernel
theorem mcs_97 : mcls 97 = some 5 := by decide +kernel
theorem mo_98 (pc : Nat) {i : Instr} (h : mt_98.lookup pc = some i) : mop 98 pc = some i := h
theorem mow_98 : mown 98 = 8 := by decide +kernel
theorem mrt_98 : mret 98 = (some (.object "java/lang/String")) := by decide +kernel
theorem mmx_98 : mmax 98 = 1 := by decide +kernel
theorem mo_99 (pc : Nat) {i : Instr} (h : mt_99.lookup pc = some i) : mop 99 pc = some i := h
theorem mow_99 : mown 99 = 8 := by decide +kernel
theorem mrt_99 : mret 99 = (some .boolean) := by decide +kernel
theorem mmx_99 : mmax 99 = 4 := by decide +kernel
theorem mcs_99 : mcls 99 = some 5 := by decide +kernel
theorem mo_100 (pc : Nat) {i : Instr} (h : mt_100.lookup pc = some i) : mop 100 pc = some i := h
theorem mow_100 : mown 100 = 8 := by decide +kernel
theorem mrt_100 : mret 100 = (some .boolean) := by decide +kernel
theorem mmx_100 : mmax 100 = 2 := by decide +kernel
theorem mo_101 (pc : Nat) {i : Instr} (h : mt_101.lookup pc = some i) : mop 101 pc = some i := h
theorem mow_101 : mown 101 = 8 := by decide +kernel
theorem mrt_101 : mret 101 = (some .boolean) := by decide +kernel
theorem mmx_101 : mmax 101 = 3 := by decide +kernel
theorem mcs_101 : mcls 101 = some 5 := by decide +kernel
theorem mo_102 (pc : Nat) {i : Instr} (h : mt_102.lookup pc = some i) : mop 102 pc = some i := h
theorem mow_102 : mown 102 = 8 := by decide +kernel
theorem mrt_102 : mret 102 = none := by decide +kernel
theorem mmx_102 : mmax 102 = 2 := by decide +kernel
theorem mcs_102 : mcls 102 = some 5 := by decide +kernel
theorem mo_103 (pc : Nat) {i : Instr} (h : mt_103.lookup pc = some i) : mop 103 pc = some i := h
theorem mow_103 : mown 103 = 8 := by decide +kernel
theorem mrt_103 : mret 103 = none := by decide +kernel
theorem mmx_103 : mmax 103 = 1 := by decide +kernel
theorem mcs_103 : mcls 103 = some 5 := by decide +kernel
theorem mo_104 (pc : Nat) {i : Instr} (h : mt_104.lookup pc = some i) : mop 104 pc = some i := h
theorem mow_104 : mown 104 = 8 := by decide +kernel
theorem mrt_104 : mret 104 = none := by decide +kernel
theorem mmx_104 : mmax 104 = 1 := by decide +kernel
theorem mcs_104 : mcls 104 = some 5 := by decide +kernel
theorem mo_105 (pc : Nat) {i : Instr} (h : mt_105.lookup pc = some i) : mop 105 pc = some i := h
theorem mow_105 : mown 105 = 8 := by decide +kernel
theorem mrt_105 : mret 105 = none := by decide +kernel
theorem mmx_105 : mmax 105 = 1 := by decide +kernel
theorem mcs_105 : mcls 105 = some 5 := by decide +kernel
theorem mo_106 (pc : Nat) {i : Instr} (h : mt_106.lookup pc = some i) : mop 106 pc = some i := h
theorem mow_106 : mown 106 = 8 := by decide +kernel
theorem mrt_106 : mret 106 = none := by decide +kernel
theorem mmx_106 : mmax 106 = 2 := by decide +kernel
theorem mcs_106 : mcls 106 = some 5 := by decide +kernel
theorem mo_107 (pc : Nat) {i : Instr} (h : mt_107.lookup pc = some i) : mop 107 pc = some i := h
theorem mow_107 : mown 107 = 8 := by decide +kernel
theorem mrt_107 : mret 107 = none := by decide +kernel
theorem mmx_107 : mmax 107 = 1 := by decide +kernel
theorem mcs_107 : mcls 107 = some 5 := by decide +kernel
theorem mo_108 (pc : Nat) {i : Instr} (h : mt_108.lookup pc = some i) : mop 108 pc = some i := h
theorem mow_108 : mown 108 = 8 := by decide +kernel
theorem mrt_108 : mret 108 = none := by decide +kernel
theorem mmx_108 : mmax 108 = 2 := by decide +kernel
theorem mcs_108 : mcls 108 = some 5 := by decide +kernel
theorem mo_109 (pc : Nat) {i : Instr} (h : mt_109.lookup pc = some i) : mop 109 pc = some i := h
theorem mow_109 : mown 109 = 8 := by decide +kernel
theorem mrt_109 : mret 109 = (some .int) := by decide +kernel
theorem mmx_109 : mmax 109 = 1 := by decide +kernel
theorem mcs_109 : mcls 109 = some 5 := by decide +kernel
theorem mo_110 (pc : Nat) {i : Instr} (h : mt_110.lookup pc = some i) : mop 110 pc = some i := h
theorem mow_110 : mown 110 = 8 := by decide +kernel
theorem mrt_110 : mret 110 = none := by decide +kernel
theorem mmx_110 : mmax 110 = 2 := by decide +kernel
theorem mcs_110 : mcls 110 = some 5 := by decide +kernel
theorem mo_111 (pc : Nat) {i : Instr} (h : mt_111.lookup pc = some i) : mop 111 pc = some i := h
theorem mow_111 : mown 111 = 8 := by decide +kernel
theorem mrt_111 : mret 111 = none := by decide +kernel
theorem mmx_111 : mmax 111 = 1 := by decide +kernel
theorem mcs_111 : mcls 111 = some 5 := by decide +kernel
theorem mo_112 (pc : Nat) {i : Instr} (h : mt_112.lookup pc = some i) : mop 112 pc = some i := h
theorem mow_112 : mown 112 = 8 := by decide +kernel
theorem mrt_112 : mret 112 = none := by decide +kernel
theorem mmx_112 : mmax 112 = 2 := by decide +kernel
theorem mcs_112 : mcls 112 = some 5 := by decide +kernel
theorem mo_113 (pc : Nat) {i : Instr} (h : mt_113.lookup pc = some i) : mop 113 pc = some i := h
theorem mow_113 : mown 113 = 8 := by decide +kernel
theorem mrt_113 : mret 113 = none := by decide +kernel
theorem mmx_113 : mmax 113 = 4 := by decide +kernel
theorem mcs_113 : mcls 113 = some 5 := by decide +kernel
theorem mo_114 (pc : Nat) {i : Instr} (h : mt_114.lookup pc = some i) : mop 114 pc = some i := h
theorem mow_114 : mown 114 = 8 := by decide +kernel
theorem mrt_114 : mret 114 = none := by decide +kernel
theorem mmx_114 : mmax 114 = 2 := by decide +kernel
theorem mcs_114 : mcls 114 = some 5 := by decide +kernel
theorem mo_115 (pc : Nat) {i : Instr} (h : mt_115.lookup pc = some i) : mop 115 pc = some i := h
theorem mow_115 : mown 115 = 9 := by decide +kernel
theorem mrt_115 : mret 115 = none := by decide +kernel
theorem mmx_115 : mmax 115 = 1 := by decide +kernel
theorem mcs_115 : mcls 115 = some 6 := by decide +kernel
theorem mo_116 (pc : Nat) {i : Instr} (h : mt_116.lookup pc = some i) : mop 116 pc = some i := h
theorem mow_116 : mown 116 = 9 := by decide +kernel
theorem mrt_116 : mret 116 = none := by decide +kernel
theorem mmx_116 : mmax 116 = 3 := by decide +kernel
theorem mcs_116 : mcls 116 = some 6 := by decide +kernel
theorem mo_117 (pc : Nat) {i : Instr} (h : mt_117.lookup pc = some i) : mop 117 pc = some i := h
theorem mow_117 : mown 117 = 9 := by decide +kernel
theorem mrt_117 : mret 117 = (some .boolean) := by decide +kernel
theorem mmx_117 : mmax 117 = 5 := by decide +kernel
theorem mcs_117 : mcls 117 = some 6 := by decide +kernel
theorem mo_118 (pc : Nat) {i : Instr} (h : mt_118.lookup pc = some i) : mop 118 pc = some i := h
theorem mow_118 : mown 118 = 9 := by decide +kernel
theorem mrt_118 : mret 118 = (some .boolean) := by decide +kernel
theorem mmx_118 : mmax 118 = 5 := by decide +kernel
theorem mcs_118 : mcls 118 = some 6 := by decide +kernel
theorem mo_119 (pc : Nat) {i : Instr} (h : mt_119.lookup pc = some i) : mop 119 pc = some i := h
theorem mow_119 : mown 119 = 9 := by decide +kernel
theorem mrt_119 : mret 119 = (some .int) := by decide +kernel
theorem mmx_119 : mmax 119 = 5 := by decide +kernel
theorem mcs_119 : mcls 119 = some 6 := by decide +kernel
theorem mo_120 (pc : Nat) {i : Instr} (h : mt_120.lookup pc = some i) : mop 120 pc = some i := h
theorem mow_120 : mown 120 = 9 := by decide +kernel
theorem mrt_120 : mret 120 = (some .int) := by decide +kernel
theorem mmx_120 : mmax 120 = 5 := by decide +kernel
theorem mcs_120 : mcls 120 = some 6 := by decide +kernel
theorem mo_121 (pc : Nat) {i : Instr} (h : mt_121.lookup pc = some i) : mop 121 pc = some i := h
theorem mow_121 : mown 121 = 9 := by decide +kernel
theorem mrt_121 : mret 121 = (some .boolean) := by decide +kernel
theorem mmx_121 : mmax 121 = 5 := by decide +kernel
theorem mcs_121 : mcls 121 = some 6 := by decide +kernel
theorem mo_122 (pc : Nat) {i : Instr} (h : mt_122.lookup pc = some i) : mop 122 pc = some i := h
theorem mow_122 : mown 122 = 9 := by decide +kernel
theorem mrt_122 : mret 122 = (some .boolean) := by decide +kernel
theorem mmx_122 : mmax 122 = 4 := by decide +kernel
theorem mcs_122 : mcls 122 = some 6 := by decide +kernel
theorem mo_123 (pc : Nat) {i : Instr} (h : mt_123.lookup pc = some i) : mop 123 pc = some i := h
theorem mow_123 : mown 123 = 9 := by decide +kernel
theorem mrt_123 : mret 123 = (some .boolean) := by decide +kernel
theorem mmx_123 : mmax 123 = 3 := by decide +kernel
theorem mcs_123 : mcls 123 = some 6 := by decide +kernel
theorem mo_124 (pc : Nat) {i : Instr} (h : mt_124.lookup pc = some i) : mop 124 pc = some i := h
theorem mow_124 : mown 124 = 9 := by decide +kernel
theorem mrt_124 : mret 124 = (some .int) := by decide +kernel
theorem mmx_124 : mmax 124 = 2 := by decide +kernel
theorem mcs_124 : mcls 124 = some 6 := by decide +kernel
theorem mo_125 (pc : Nat) {i : Instr} (h : mt_125.lookup pc = some i) : mop 125 pc = some i := h
theorem mow_125 : mown 125 = 9 := by decide +kernel
theorem mrt_125 : mret 125 = (some .boolean) := by decide +kernel
theorem mmx_125 : mmax 125 = 9 := by decide +kernel
theorem mcs_125 : mcls 125 = some 6 := by decide +kernel
theorem mo_126 (pc : Nat) {i : Instr} (h : mt_126.lookup pc = some i) : mop 126 pc = some i := h
theorem mow_126 : mown 126 = 9 := by decide +kernel
theorem mrt_126 : mret 126 = (some .boolean) := by decide +kernel
theorem mmx_126 : mmax 126 = 9 := by decide +kernel
theorem mcs_126 : mcls 126 = some 6 := by decide +kernel
theorem mo_127 (pc : Nat) {i : Instr} (h : mt_127.lookup pc = some i) : mop 127 pc = some i := h
theorem mow_127 : mown 127 = 9 := by decide +kernel
theorem mrt_127 : mret 127 = (some .boolean) := by decide +kernel
theorem mmx_127 : mmax 127 = 5 := by decide +kernel
theorem mcs_127 : mcls 127 = some 6 := by decide +kernel
theorem mo_128 (pc : Nat) {i : Instr} (h : mt_128.lookup pc = some i) : mop 128 pc = some i := h
theorem mow_128 : mown 128 = 9 := by decide +kernel
theorem mrt_128 : mret 128 = none := by decide +kernel
theorem mmx_128 : mmax 128 = 2 := by decide +kernel
theorem mcs_128 : mcls 128 = some 6 := by decide +kernel
theorem mo_129 (pc : Nat) {i : Instr} (h : mt_129.lookup pc = some i) : mop 129 pc = some i := h
theorem mow_129 : mown 129 = 9 := by decide +kernel
theorem mrt_129 : mret 129 = (some .int) := by decide +kernel
theorem mmx_129 : mmax 129 = 2 := by decide +kernel
theorem mcs_129 : mcls 129 = some 6 := by decide +kernel
theorem mo_130 (pc : Nat) {i : Instr} (h : mt_130.lookup pc = some i) : mop 130 pc = some i := h
theorem mow_130 : mown 130 = 9 := by decide +kernel
theorem mrt_130 : mret 130 = (some .int) := by decide +kernel
theorem mmx_130 : mmax 130 = 2 := by decide +kernel
theorem mcs_130 : mcls 130 = some 6 := by decide +kernel
theorem mo_131 (pc : Nat) {i : Instr} (h : mt_131.lookup pc = some i) : mop 131 pc = some i := h
theorem mow_131 : mown 131 = 9 := by decide +kernel
theorem mrt_131 : mret 131 = (some .int) := by decide +kernel
theorem mmx_131 : mmax 131 = 3 := by decide +kernel
theorem mcs_131 : mcls 131 = some 6 := by decide +kernel
theorem mo_132 (pc : Nat) {i : Instr} (h : mt_132.lookup pc = some i) : mop 132 pc = some i := h
theorem mow_132 : mown 132 = 9 := by decide +kernel
theorem mrt_132 : mret 132 = (some .int) := by decide +kernel
theorem mmx_132 : mmax 132 = 1 := by decide +kernel
theorem mcs_132 : mcls 132 = some 6 := by decide +kernel
theorem mo_133 (pc : Nat) {i : Instr} (h : mt_133.lookup pc = some i) : mop 133 pc = some i := h
theorem mow_133 : mown 133 = 9 := by decide +kernel
theorem mrt_133 : mret 133 = (some .int) := by decide +kernel
theorem mmx_133 : mmax 133 = 8 := by decide +kernel
theorem mcs_133 : mcls 133 = some 6 := by decide +kernel
theorem mo_134 (pc : Nat) {i : Instr} (h : mt_134.lookup pc = some i) : mop 134 pc = some i := h
theorem mow_134 : mown 134 = 9 := by decide +kernel
theorem mrt_134 : mret 134 = (some .int) := by decide +kernel
theorem mmx_134 : mmax 134 = 4 := by decide +kernel
theorem mcs_134 : mcls 134 = some 6 := by decide +kernel
theorem mo_135 (pc : Nat) {i : Instr} (h : mt_135.lookup pc = some i) : mop 135 pc = some i := h
theorem mow_135 : mown 135 = 9 := by decide +kernel
theorem mrt_135 : mret 135 = (some .int) := by decide +kernel
theorem mmx_135 : mmax 135 = 5 := by decide +kernel
theorem mcs_135 : mcls 135 = some 6 := by decide +kernel
theorem mo_136 (pc : Nat) {i : Instr} (h : mt_136.lookup pc = some i) : mop 136 pc = some i := h
theorem mow_136 : mown 136 = 9 := by decide +kernel
theorem mrt_136 : mret 136 = (some .int) := by decide +kernel
theorem mmx_136 : mmax 136 = 3 := by decide +kernel
theorem mcs_136 : mcls 136 = some 6 := by decide +kernel
theorem mo_137 (pc : Nat) {i : Instr} (h : mt_137.lookup pc = some i) : mop 137 pc = some i := h
theorem mow_137 : mown 137 = 9 := by decide +kernel
theorem mrt_137 : mret 137 = (some .int) := by decide +kernel
theorem mmx_137 : mmax 137 = 3 := by decide +kernel
theorem mcs_137 : mcls 137 = some 6 := by decide +kernel
theorem mo_138 (pc : Nat) {i : Instr} (h : mt_138.lookup pc = some i) : mop 138 pc = some i := h
theorem mow_138 : mown 138 = 9 := by decide +kernel
theorem mrt_138 : mret 138 = none := by decide +kernel
theorem mmx_138 : mmax 138 = 3 := by decide +kernel
theorem mcs_138 : mcls 138 = some 6 := by decide +kernel
theorem mo_139 (pc : Nat) {i : Instr} (h : mt_139.lookup pc = some i) : mop 139 pc = some i := h
theorem mow_139 : mown 139 = 9 := by decide +kernel
theorem mrt_139 : mret 139 = (some .boolean) := by decide +kernel
theorem mmx_139 : mmax 139 = 4 := by decide +kernel
theorem mcs_139 : mcls 139 = some 6 := by decide +kernel
theorem mo_140 (pc : Nat) {i : Instr} (h : mt_140.lookup pc = some i) : mop 140 pc = some i := h
theorem mow_140 : mown 140 = 9 := by decide +kernel
theorem mrt_140 : mret 140 = (some .boolean) := by decide +kernel
theorem mmx_140 : mmax 140 = 3 := by decide +kernel
theorem mcs_140 : mcls 140 = some 6 := by decide +kernel
theorem mo_141 (pc : Nat) {i : Instr} (h : mt_141.lookup pc = some i) : mop 141 pc = some i := h
theorem mow_141 : mown 141 = 9 := by decide +kernel
theorem mrt_141 : mret 141 = (some .int) := by decide +kernel
theorem mmx_141 : mmax 141 = 1 := by decide +kernel
theorem mcs_141 : mcls 141 = some 6 := by decide +kernel
theorem mo_142 (pc : Nat) {i : Instr} (h : mt_142.lookup pc = some i) : mop 142 pc = some i := h
theorem mow_142 : mown 142 = 9 := by decide +kernel
theorem mrt_142 : mret 142 = (some .int) := by decide +kernel
theorem mmx_142 : mmax 142 = 3 := by decide +kernel
theorem mcs_142 : mcls 142 = some 6 := by decide +kernel
theorem mo_143 (pc : Nat) {i : Instr} (h : mt_143.lookup pc = some i) : mop 143 pc = some i := h
theorem mow_143 : mown 143 = 9 := by decide +kernel
theorem mrt_143 : mret 143 = (some .int) := by decide +kernel
theorem mmx_143 : mmax 143 = 7 := by decide +kernel
theorem mcs_143 : mcls 143 = some 6 := by decide +kernel
theorem mo_144 (pc : Nat) {i : Instr} (h : mt_144.lookup pc = some i) : mop 144 pc = some i := h
theorem mow_144 : mown 144 = 9 := by decide +kernel
theorem mrt_144 : mret 144 = (some .int) := by decide +kernel
theorem mmx_144 : mmax 144 = 3 := by decide +kernel
theorem mcs_144 : mcls 144 = some 6 := by decide +kernel
theorem mo_145 (pc : Nat) {i : Instr} (h : mt_145.lookup pc = some i) : mop 145 pc = some i := h
theorem mow_145 : mown 145 = 10 := by decide +kernel
theorem mrt_145 : mret 145 = none := by decide +kernel
theorem mmx_145 : mmax 145 = 2 := by decide +kernel
theorem mcs_145 : mcls 145 = some 7 := by decide +kernel
theorem mo_146 (pc : Nat) {i : Instr} (h : mt_146.lookup pc = some i) : mop 146 pc = some i := h
theorem mow_146 : mown 146 = 10 := by decide +kernel
theorem mrt_146 : mret 146 = none := by decide +kernel
theorem mmx_146 : mmax 146 = 3 := by decide +kernel
theorem mcs_146 : mcls 146 = some 7 := by decide +kernel
theorem mo_147 (pc : Nat) {i : Instr} (h : mt_147.lookup pc = some i) : mop 147 pc = some i := h
theorem mow_147 : mown 147 = 10 := by decide +kernel
theorem mrt_147 : mret 147 = none := by decide +kernel
theorem mmx_147 : mmax 147 = 3 := by decide +kernel
theorem mcs_147 : mcls 147 = some 7 := by decide +kernel
theorem mo_148 (pc : Nat) {i : Instr} (h : mt_148.lookup pc = some i) : mop 148 pc = some i := h
theorem mow_148 : mown 148 = 11 := by decide +kernel
theorem mrt_148 : mret 148 = none := by decide +kernel
theorem mmx_148 : mmax 148 = 1 := by decide +kernel
theorem mcs_148 : mcls 148 = some 8 := by decide +kernel
theorem mo_149 (pc : Nat) {i : Instr} (h : mt_149.lookup pc = some i) : mop 149 pc = some i := h
theorem mow_149 : mown 149 = 11 := by decide +kernel
theorem mrt_149 : mret 149 = none := by decide +kernel
theorem mmx_149 : mmax 149 = 1 := by decide +kernel
theorem mcs_149 : mcls 149 = some 8 := by decide +kernel
theorem mo_150 (pc : Nat) {i : Instr} (h : mt_150.lookup pc = some i) : mop 150 pc = some i := h
theorem mow_150 : mown 150 = 11 := by decide +kernel
theorem mrt_150 : mret 150 = none := by decide +kernel
theorem mmx_150 : mmax 150 = 2 := by decide +kernel
theorem mcs_150 : mcls 150 = some 8 := by decide +kernel
theorem mo_151 (pc : Nat) {i : Instr} (h : mt_151.lookup pc = some i) : mop 151 pc = some i := h
theorem mow_151 : mown 151 = 11 := by decide +kernel
theorem mrt_151 : mret 151 = (some .int) := by decide +kernel
theorem mmx_151 : mmax 151 = 2 := by decide +kernel
theorem mcs_151 : mcls 151 = some 8 := by decide +kernel
theorem mo_152 (pc : Nat) {i : Instr} (h : mt_152.lookup pc = some i) : mop 152 pc = some i := h
theorem mow_152 : mown 152 = 11 := by decide +kernel
theorem mrt_152 : mret 152 = (some .int) := by decide +kernel
theorem mmx_152 : mmax 152 = 3 := by decide +kernel
theorem mcs_152 : mcls 152 = some 8 := by decide +kernel
theorem mo_153 (pc : Nat) {i : Instr} (h : mt_153.lookup pc = some i) : mop 153 pc = some i := h
theorem mow_153 : mown 153 = 11 := by decide +kernel
theorem mrt_153 : mret 153 = (some .boolean) := by decide +kernel
theorem mmx_153 : mmax 153 = 2 := by decide +kernel
theorem mcs_153 : mcls 153 = some 8 := by decide +kernel
theorem mo_154 (pc : Nat) {i : Instr} (h : mt_154.lookup pc = some i) : mop 154 pc = some i := h
theorem mow_154 : mown 154 = 11 := by decide +kernel
theorem mrt_154 : mret 154 = (some .boolean) := by decide +kernel
theorem mmx_154 : mmax 154 = 2 := by decide +kernel
theorem mcs_154 : mcls 154 = some 8 := by decide +kernel
theorem mo_155 (pc : Nat) {i : Instr} (h : mt_155.lookup pc = some i) : mop 155 pc = some i := h
theorem mow_155 : mown 155 = 11 := by decide +kernel
theorem mrt_155 : mret 155 = (some .int) := by decide +kernel
theorem mmx_155 : mmax 155 = 5 := by decide +kernel
theorem mcs_155 : mcls 155 = some 8 := by decide +kernel
theorem mo_156 (pc : Nat) {i : Instr} (h : mt_156.lookup pc = some i) : mop 156 pc = some i := h
theorem mow_156 : mown 156 = 11 := by decide +kernel
theorem mrt_156 : mret 156 = (some .int) := by decide +kernel
theorem mmx_156 : mmax 156 = 5 := by decide +kernel
theorem mcs_156 : mcls 156 = some 8 := by decide +kernel
theorem mo_157 (pc : Nat) {i : Instr} (h : mt_157.lookup pc = some i) : mop 157 pc = some i := h
theorem mow_157 : mown 157 = 11 := by decide +kernel
theorem mrt_157 : mret 157 = (some .int) := by decide +kernel
theorem mmx_157 : mmax 157 = 5 := by decide +kernel
theorem mcs_157 : mcls 157 = some 8 := by decide +kernel
theorem mo_158 (pc : Nat) {i : Instr} (h : mt_158.lookup pc = some i) : mop 158 pc = some i := h
theorem mow_158 : mown 158 = 11 := by decide +kernel
theorem mrt_158 : mret 158 = (some .int) := by decide +kernel
theorem mmx_158 : mmax 158 = 5 := by decide +kernel
theorem mcs_158 : mcls 158 = some 8 := by decide +kernel
theorem mo_159 (pc : Nat) {i : Instr} (h : mt_159.lookup pc = some i) : mop 159 pc = some i := h
theorem mow_159 : mown 159 = 11 := by decide +kernel
theorem mrt_159 : mret 159 = (some .boolean) := by decide +kernel
theorem mmx_159 : mmax 159 = 5 := by decide +kernel
theorem mcs_159 : mcls 159 = some 8 := by decide +kernel
theorem mo_160 (pc : Nat) {i : Instr} (h : mt_160.lookup pc = some i) : mop 160 pc = some i := h
theorem mow_160 : mown 160 = 11 := by decide +kernel
theorem mrt_160 : mret 160 = (some .int) := by decide +kernel
theorem mmx_160 : mmax 160 = 5 := by decide +kernel
theorem mcs_160 : mcls 160 = some 8 := by decide +kernel
theorem mo_161 (pc : Nat) {i : Instr} (h : mt_161.lookup pc = some i) : mop 161 pc = some i := h
theorem mow_161 : mown 161 = 11 := by decide +kernel
theorem mrt_161 : mret 161 = (some .int) := by decide +kernel
theorem mmx_161 : mmax 161 = 3 := by decide +kernel
theorem mcs_161 : mcls 161 = some 8 := by decide +kernel
theorem mo_162 (pc : Nat) {i : Instr} (h : mt_162.lookup pc = some i) : mop 162 pc = some i := h
theorem mow_162 : mown 162 = 12 := by decide +kernel
theorem mrt_162 : mret 162 = (some .int) := by decide +kernel
theorem mmx_162 : mmax 162 = 7 := by decide +kernel
theorem mo_163 (pc : Nat) {i : Instr} (h : mt_163.lookup pc = some i) : mop 163 pc = some i := h
theorem mow_163 : mown 163 = 12 := by decide +kernel
theorem mrt_163 : mret 163 = (some .int) := by decide +kernel
theorem mmx_163 : mmax 163 = 4 := by decide +kernel
theorem mo_164 (pc : Nat) {i : Instr} (h : mt_164.lookup pc = some i) : mop 164 pc = some i := h
theorem mow_164 : mown 164 = 12 := by decide +kernel
theorem mrt_164 : mret 164 = (some .int) := by decide +kernel
theorem mmx_164 : mmax 164 = 2 := by decide +kernel
theorem mo_165 (pc : Nat) {i : Instr} (h : mt_165.lookup pc = some i) : mop 165 pc = some i := h
theorem mow_165 : mown 165 = 12 := by decide +kernel
theorem mrt_165 : mret 165 = (some .int) := by decide +kernel
theorem mmx_165 : mmax 165 = 8 := by decide +kernel
theorem mo_166 (pc : Nat) {i : Instr} (h : mt_166.lookup pc = some i) : mop 166 pc = some i := h
theorem mow_166 : mown 166 = 12 := by decide +kernel
theorem mrt_166 : mret 166 = (some .int) := by decide +kernel
theorem mmx_166 : mmax 166 = 7 := by decide +kernel
theorem mo_167 (pc : Nat) {i : Instr} (h : mt_167.lookup pc = some i) : mop 167 pc = some i := h
theorem mow_167 : mown 167 = 12 := by decide +kernel
theorem mrt_167 : mret 167 = (some .int) := by decide +kernel
theorem mmx_167 : mmax 167 = 2 := by decide +kernel
theorem mo_168 (pc : Nat) {i : Instr} (h : mt_168.lookup pc = some i) : mop 168 pc = some i := h
theorem mow_168 : mown 168 = 12 := by decide +kernel
theorem mrt_168 : mret 168 = (some .int) := by decide +kernel
theorem mmx_168 : mmax 168 = 5 := by decide +kernel
theorem mo_169 (pc : Nat) {i : Instr} (h : mt_169.lookup pc = some i) : mop 169 pc = some i := h
theorem mow_169 : mown 169 = 13 := by decide +kernel
theorem mrt_169 : mret 169 = none := by decide +kernel
theorem mmx_169 : mmax 169 = 1 := by decide +kernel
theorem mcs_169 : mcls 169 = some 10 := by decide +kernel
theorem mo_170 (pc : Nat) {i : Instr} (h : mt_170.lookup pc = some i) : mop 170 pc = some i := h
theorem mow_170 : mown 170 = 13 := by decide +kernel
theorem mrt_170 : mret 170 = (some .int) := by decide +kernel
theorem mmx_170 : mmax 170 = 8 := by decide +kernel
theorem mcs_170 : mcls 170 = some 10 := by decide +kernel
theorem mo_171 (pc : Nat) {i : Instr} (h : mt_171.lookup pc = some i) : mop 171 pc = some i := h
theorem mow_171 : mown 171 = 13 := by decide +kernel
theorem mrt_171 : mret 171 = (some .int) := by decide +kernel
theorem mmx_171 : mmax 171 = 2 := by decide +kernel
theorem mcs_171 : mcls 171 = some 10 := by decide +kernel
theorem mo_172 (pc : Nat) {i : Instr} (h : mt_172.lookup pc = some i) : mop 172 pc = some i := h
theorem mow_172 : mown 172 = 13 := by decide +kernel
theorem mrt_172 : mret 172 = (some .int) := by decide +kernel
theorem mmx_172 : mmax 172 = 5 := by decide +kernel
theorem mcs_172 : mcls 172 = some 10 := by decide +kernel
theorem mo_173 (pc : Nat) {i : Instr} (h : mt_173.lookup pc = some i) : mop 173 pc = some i := h
theorem mow_173 : mown 173 = 13 := by decide +kernel
theorem mrt_173 : mret 173 = (some .boolean) := by decide +kernel
theorem mmx_173 : mmax 173 = 3 := by decide +kernel
theorem mo_174 (pc : Nat) {i : Instr} (h : mt_174.lookup pc = some i) : mop 174 pc = some i := h
theorem mow_174 : mown 174 = 13 := by decide +kernel
theorem mrt_174 : mret 174 = (some .boolean) := by decide +kernel
theorem mmx_174 : mmax 174 = 3 := by decide +kernel
theorem mcs_174 : mcls 174 = some 10 := by decide +kernel
theorem mo_175 (pc : Nat) {i : Instr} (h : mt_175.lookup pc = some i) : mop 175 pc = some i := h
theorem mow_175 : mown 175 = 13 := by decide +kernel
theorem mrt_175 : mret 175 = none := by decide +kernel
theorem mmx_175 : mmax 175 = 3 := by decide +kernel
theorem mcs_175 : mcls 175 = some 10 := by decide +kernel
theorem mo_176 (pc : Nat) {i : Instr} (h : mt_176.lookup pc = some i) : mop 176 pc = some i := h
theorem mow_176 : mown 176 = 13 := by decide +kernel
theorem mrt_176 : mret 176 = none := by decide +kernel
theorem mmx_176 : mmax 176 = 4 := by decide +kernel
theorem mcs_176 : mcls 176 = some 10 := by decide +kernel
theorem mo_177 (pc : Nat) {i : Instr} (h : mt_177.lookup pc = some i) : mop 177 pc = some i := h
theorem mow_177 : mown 177 = 13 := by decide +kernel
theorem mrt_177 : mret 177 = (some .int) := by decide +kernel
theorem mmx_177 : mmax 177 = 2 := by decide +kernel
theorem mcs_177 : mcls 177 = some 10 := by decide +kernel
theorem mo_178 (pc : Nat) {i : Instr} (h : mt_178.lookup pc = some i) : mop 178 pc = some i := h
theorem mow_178 : mown 178 = 13 := by decide +kernel
theorem mrt_178 : mret 178 = (some .boolean) := by decide +kernel
theorem mmx_178 : mmax 178 = 1 := by decide +kernel
theorem mo_179 (pc : Nat) {i : Instr} (h : mt_179.lookup pc = some i) : mop 179 pc = some i := h
theorem mow_179 : mown 179 = 13 := by decide +kernel
theorem mrt_179 : mret 179 = (some .int) := by decide +kernel
theorem mmx_179 : mmax 179 = 2 := by decide +kernel
theorem mo_180 (pc : Nat) {i : Instr} (h : mt_180.lookup pc = some i) : mop 180 pc = some i := h
theorem mow_180 : mown 180 = 13 := by decide +kernel
theorem mrt_180 : mret 180 = (some .long) := by decide +kernel
theorem mmx_180 : mmax 180 = 8 := by decide +kernel
theorem mo_181 (pc : Nat) {i : Instr} (h : mt_181.lookup pc = some i) : mop 181 pc = some i := h
theorem mow_181 : mown 181 = 13 := by decide +kernel
theorem mrt_181 : mret 181 = (some .long) := by decide +kernel
theorem mmx_181 : mmax 181 = 4 := by decide +kernel
theorem mo_182 (pc : Nat) {i : Instr} (h : mt_182.lookup pc = some i) : mop 182 pc = some i := h
theorem mow_182 : mown 182 = 13 := by decide +kernel
theorem mrt_182 : mret 182 = (some .int) := by decide +kernel
theorem mmx_182 : mmax 182 = 2 := by decide +kernel
theorem mo_183 (pc : Nat) {i : Instr} (h : mt_183.lookup pc = some i) : mop 183 pc = some i := h
theorem mow_183 : mown 183 = 13 := by decide +kernel
theorem mrt_183 : mret 183 = (some .boolean) := by decide +kernel
theorem mmx_183 : mmax 183 = 1 := by decide +kernel
theorem mo_184 (pc : Nat) {i : Instr} (h : mt_184.lookup pc = some i) : mop 184 pc = some i := h
theorem mow_184 : mown 184 = 13 := by decide +kernel
theorem mrt_184 : mret 184 = none := by decide +kernel
theorem mmx_184 : mmax 184 = 5 := by decide +kernel
theorem mcs_184 : mcls 184 = some 10 := by decide +kernel
theorem mo_185 (pc : Nat) {i : Instr} (h : mt_185.lookup pc = some i) : mop 185 pc = some i := h
theorem mow_185 : mown 185 = 13 := by decide +kernel
theorem mrt_185 : mret 185 = (some .int) := by decide +kernel
theorem mmx_185 : mmax 185 = 4 := by decide +kernel
theorem mcs_185 : mcls 185 = some 10 := by decide +kernel
theorem mo_186 (pc : Nat) {i : Instr} (h : mt_186.lookup pc = some i) : mop 186 pc = some i := h
theorem mow_186 : mown 186 = 13 := by decide +kernel
theorem mrt_186 : mret 186 = none := by decide +kernel
theorem mmx_186 : mmax 186 = 1 := by decide +kernel
theorem mcs_186 : mcls 186 = some 10 := by decide +kernel
theorem mo_187 (pc : Nat) {i : Instr} (h : mt_187.lookup pc = some i) : mop 187 pc = some i := h
theorem mow_187 : mown 187 = 13 := by decide +kernel
theorem mrt_187 : mret 187 = (some .int) := by decide +kernel
theorem mmx_187 : mmax 187 = 4 := by decide +kernel
theorem mcs_187 : mcls 187 = some 10 := by decide +kernel
theorem mo_188 (pc : Nat) {i : Instr} (h : mt_188.lookup pc = some i) : mop 188 pc = some i := h
theorem mow_188 : mown 188 = 13 := by decide +kernel
theorem mrt_188 : mret 188 = none := by decide +kernel
theorem mmx_188 : mmax 188 = 3 := by decide +kernel
theorem mcs_188 : mcls 188 = some 10 := by decide +kernel
theorem mo_189 (pc : Nat) {i : Instr} (h : mt_189.lookup pc = some i) : mop 189 pc = some i := h
theorem mow_189 : mown 189 = 13 := by decide +kernel
theorem mrt_189 : mret 189 = none := by decide +kernel
theorem mmx_189 : mmax 189 = 5 := by decide +kernel
theorem mcs_189 : mcls 189 = some 10 := by decide +kernel
theorem mo_190 (pc : Nat) {i : Instr} (h : mt_190.lookup pc = some i) : mop 190 pc = some i := h
theorem mow_190 : mown 190 = 13 := by decide +kernel
theorem mrt_190 : mret 190 = none := by decide +kernel
theorem mmx_190 : mmax 190 = 3 := by decide +kernel
theorem mcs_190 : mcls 190 = some 10 := by decide +kernel
theorem mo_191 (pc : Nat) {i : Instr} (h : mt_191.lookup pc = some i) : mop 191 pc = some i := h
theorem mow_191 : mown 191 = 13 := by decide +kernel
theorem mrt_191 : mret 191 = (some .int) := by decide +kernel
theorem mmx_191 : mmax 191 = 2 := by decide +kernel
theorem mcs_191 : mcls 191 = some 10 := by decide +kernel
theorem mo_192 (pc : Nat) {i : Instr} (h : mt_192.lookup pc = some i) : mop 192 pc = some i := h
theorem mow_192 : mown 192 = 13 := by decide +kernel
theorem mrt_192 : mret 192 = (some .int) := by decide +kernel
theorem mmx_192 : mmax 192 = 2 := by decide +kernel
theorem mcs_192 : mcls 192 = some 10 := by decide +kernel
theorem mo_193 (pc : Nat) {i : Instr} (h : mt_193.lookup pc = some i) : mop 193 pc = some i := h
theorem mow_193 : mown 193 = 13 := by decide +kernel
theorem mrt_193 : mret 193 = (some .int) := by decide +kernel
theorem mmx_193 : mmax 193 = 3 := by decide +kernel
theorem mcs_193 : mcls 193 = some 10 := by decide +kernel
theorem mo_194 (pc : Nat) {i : Instr} (h : mt_194.lookup pc = some i) : mop 194 pc = some i := h
theorem mow_194 : mown 194 = 13 := by decide +kernel
theorem mrt_194 : mret 194 = none := by decide +kernel
theorem mmx_194 : mmax 194 = 7 := by decide +kernel
theorem mcs_194 : mcls 194 = some 10 := by decide +kernel
theorem mo_195 (pc : Nat) {i : Instr} (h : mt_195.lookup pc = some i) : mop 195 pc = some i := h
theorem mow_195 : mown 195 = 13 := by decide +kernel
theorem mrt_195 : mret 195 = none := by decide +kernel
theorem mmx_195 : mmax 195 = 5 := by decide +kernel
theorem mcs_195 : mcls 195 = some 10 := by decide +kernel
theorem mo_196 (pc : Nat) {i : Instr} (h : mt_196.lookup pc = some i) : mop 196 pc = some i := h
theorem mow_196 : mown 196 = 13 := by decide +kernel
theorem mrt_196 : mret 196 = none := by decide +kernel
theorem mmx_196 : mmax 196 = 1 := by decide +kernel
theorem mcs_196 : mcls 196 = some 10 := by decide +kernel
theorem mo_197 (pc : Nat) {i : Instr} (h : mt_197.lookup pc = some i) : mop 197 pc = some i := h
theorem mow_197 : mown 197 = 13 := by decide +kernel
theorem mrt_197 : mret 197 = none := by decide +kernel
theorem mmx_197 : mmax 197 = 7 := by decide +kernel
theorem mcs_197 : mcls 197 = some 10 := by decide +kernel
theorem mo_198 (pc : Nat) {i : Instr} (h : mt_198.lookup pc = some i) : mop 198 pc = some i := h
theorem mow_198 : mown 198 = 13 := by decide +kernel
theorem mrt_198 : mret 198 = none := by decide +kernel
theorem mmx_198 : mmax 198 = 3 := by decide +kernel
theorem mcs_198 : mcls 198 = some 10 := by decide +kernel
theorem mo_199 (pc : Nat) {i : Instr} (h : mt_199.lookup pc = some i) : mop 199 pc = some i := h
theorem mow_199 : mown 199 = 13 := by decide +kernel
theorem mrt_199 : mret 199 = none := by decide +kernel
theorem mmx_199 : mmax 199 = 8 := by decide +kernel
theorem mcs_199 : mcls 199 = some 10 := by decide +kernel
theorem mo_200 (pc : Nat) {i : Instr} (h : mt_200.lookup pc = some i) : mop 200 pc = some i := h
theorem mow_200 : mown 200 = 13 := by decide +kernel
theorem mrt_200 : mret 200 = (some .int) := by decide +kernel
theorem mmx_200 : mmax 200 = 1 := by decide +kernel
theorem mo_201 (pc : Nat) {i : Instr} (h : mt_201.lookup pc = some i) : mop 201 pc = some i := h
theorem mow_201 : mown 201 = 13 := by decide +kernel
theorem mrt_201 : mret 201 = (some .int) := by decide +kernel
theorem mmx_201 : mmax 201 = 2 := by decide +kernel
theorem mo_202 (pc : Nat) {i : Instr} (h : mt_202.lookup pc = some i) : mop 202 pc = some i := h
theorem mow_202 : mown 202 = 13 := by decide +kernel
theorem mrt_202 : mret 202 = (some .int) := by decide +kernel
theorem mmx_202 : mmax 202 = 2 := by decide +kernel
theorem mcs_202 : mcls 202 = some 10 := by decide +kernel
theorem mo_203 (pc : Nat) {i : Instr} (h : mt_203.lookup pc = some i) : mop 203 pc = some i := h
theorem mow_203 : mown 203 = 13 := by decide +kernel
theorem mrt_203 : mret 203 = (some .int) := by decide +kernel
theorem mmx_203 : mmax 203 = 4 := by decide +kernel
theorem mcs_203 : mcls 203 = some 10 := by decide +kernel
theorem mo_204 (pc : Nat) {i : Instr} (h : mt_204.lookup pc = some i) : mop 204 pc = some i := h
theorem mow_204 : mown 204 = 13 := by decide +kernel
theorem mrt_204 : mret 204 = (some .boolean) := by decide +kernel
theorem mmx_204 : mmax 204 = 2 := by decide +kernel
theorem mcs_204 : mcls 204 = some 10 := by decide +kernel
theorem mo_205 (pc : Nat) {i : Instr} (h : mt_205.lookup pc = some i) : mop 205 pc = some i := h
theorem mow_205 : mown 205 = 13 := by decide +kernel
theorem mrt_205 : mret 205 = (some .boolean) := by decide +kernel
theorem mmx_205 : mmax 205 = 2 := by decide +kernel
theorem mcs_205 : mcls 205 = some 10 := by decide +kernel
theorem mo_206 (pc : Nat) {i : Instr} (h : mt_206.lookup pc = some i) : mop 206 pc = some i := h
theorem mow_206 : mown 206 = 13 := by decide +kernel
theorem mrt_206 : mret 206 = (some .int) := by decide +kernel
theorem mmx_206 : mmax 206 = 4 := by decide +kernel
theorem mcs_206 : mcls 206 = some 10 := by decide +kernel
theorem mo_207 (pc : Nat) {i : Instr} (h : mt_207.lookup pc = some i) : mop 207 pc = some i := h
theorem mow_207 : mown 207 = 13 := by decide +kernel
theorem mrt_207 : mret 207 = (some .boolean) := by decide +kernel
theorem mmx_207 : mmax 207 = 2 := by decide +kernel
theorem mcs_207 : mcls 207 = some 10 := by decide +kernel
theorem mo_208 (pc : Nat) {i : Instr} (h : mt_208.lookup pc = some i) : mop 208 pc = some i := h
theorem mow_208 : mown 208 = 13 := by decide +kernel
theorem mrt_208 : mret 208 = (some .int) := by decide +kernel
theorem mmx_208 : mmax 208 = 4 := by decide +kernel
theorem mcs_208 : mcls 208 = some 10 := by decide +kernel
theorem mo_209 (pc : Nat) {i : Instr} (h : mt_209.lookup pc = some i) : mop 209 pc = some i := h
theorem mow_209 : mown 209 = 13 := by decide +kernel
theorem mrt_209 : mret 209 = (some .int) := by decide +kernel
theorem mmx_209 : mmax 209 = 4 := by decide +kernel
theorem mcs_209 : mcls 209 = some 10 := by decide +kernel
theorem mo_210 (pc : Nat) {i : Instr} (h : mt_210.lookup pc = some i) : mop 210 pc = some i := h
theorem mow_210 : mown 210 = 13 := by decide +kernel
theorem mrt_210 : mret 210 = (some .boolean) := by decide +kernel
theorem mmx_210 : mmax 210 = 2 := by decide +kernel
theorem mcs_210 : mcls 210 = some 10 := by decide +kernel
theorem mo_211 (pc : Nat) {i : Instr} (h : mt_211.lookup pc = some i) : mop 211 pc = some i := h
theorem mow_211 : mown 211 = 13 := by decide +kernel
theorem mrt_211 : mret 211 = (some .int) := by decide +kernel
theorem mmx_211 : mmax 211 = 3 := by decide +kernel
theorem mcs_211 : mcls 211 = some 10 := by decide +kernel
theorem mo_212 (pc : Nat) {i : Instr} (h : mt_212.lookup pc = some i) : mop 212 pc = some i := h
theorem mow_212 : mown 212 = 13 := by decide +kernel
theorem mrt_212 : mret 212 = (some .int) := by decide +kernel
theorem mmx_212 : mmax 212 = 3 := by decide +kernel
theorem mcs_212 : mcls 212 = some 10 := by decide +kernel
theorem mo_213 (pc : Nat) {i : Instr} (h : mt_213.lookup pc = some i) : mop 213 pc = some i := h
theorem mow_213 : mown 213 = 13 := by decide +kernel
theorem mrt_213 : mret 213 = none := by decide +kernel
theorem mmx_213 : mmax 213 = 2 := by decide +kernel
theorem mcs_213 : mcls 213 = some 10 := by decide +kernel
theorem mo_214 (pc : Nat) {i : Instr} (h : mt_214.lookup pc = some i) : mop 214 pc = some i := h
theorem mow_214 : mown 214 = 13 := by decide +kernel
theorem mrt_214 : mret 214 = none := by decide +kernel
theorem mmx_214 : mmax 214 = 2 := by decide +kernel
theorem mcs_214 : mcls 214 = some 10 := by decide +kernel
theorem mo_215 (pc : Nat) {i : Instr} (h : mt_215.lookup pc = some i) : mop 215 pc = some i := h
theorem mow_215 : mown 215 = 13 := by decide +kernel
theorem mrt_215 : mret 215 = none := by decide +kernel
theorem mmx_215 : mmax 215 = 4 := by decide +kernel
theorem mcs_215 : mcls 215 = some 10 := by decide +kernel
theorem mo_216 (pc : Nat) {i : Instr} (h : mt_216.lookup pc = some i) : mop 216 pc = some i := h
theorem mow_216 : mown 216 = 13 := by decide +kernel
theorem mrt_216 : mret 216 = none := by decide +kernel
theorem mmx_216 : mmax 216 = 5 := by decide +kernel
theorem mcs_216 : mcls 216 = some 10 := by decide +kernel
theorem mo_217 (pc : Nat) {i : Instr} (h : mt_217.lookup pc = some i) : mop 217 pc = some i := h
theorem mow_217 : mown 217 = 13 := by decide +kernel
theorem mrt_217 : mret 217 = (some .int) := by decide +kernel
theorem mmx_217 : mmax 217 = 5 := by decide +kernel
theorem mcs_217 : mcls 217 = some 10 := by decide +kernel
theorem mo_218 (pc : Nat) {i : Instr} (h : mt_218.lookup pc = some i) : mop 218 pc = some i := h
theorem mow_218 : mown 218 = 13 := by decide +kernel
theorem mrt_218 : mret 218 = (some .int) := by decide +kernel
theorem mmx_218 : mmax 218 = 1 := by decide +kernel
theorem mo_219 (pc : Nat) {i : Instr} (h : mt_219.lookup pc = some i) : mop 219 pc = some i := h
theorem mow_219 : mown 219 = 13 := by decide +kernel
theorem mrt_219 : mret 219 = none := by decide +kernel
theorem mmx_219 : mmax 219 = 3 := by decide +kernel
theorem mcs_219 : mcls 219 = some 10 := by decide +kernel
theorem mo_220 (pc : Nat) {i : Instr} (h : mt_220.lookup pc = some i) : mop 220 pc = some i := h
theorem mow_220 : mown 220 = 13 := by decide +kernel
theorem mrt_220 : mret 220 = (some .boolean) := by decide +kernel
theorem mmx_220 : mmax 220 = 4 := by decide +kernel
theorem mcs_220 : mcls 220 = some 10 := by decide +kernel
theorem mo_221 (pc : Nat) {i : Instr} (h : mt_221.lookup pc = some i) : mop 221 pc = some i := h
theorem mow_221 : mown 221 = 13 := by decide +kernel
theorem mrt_221 : mret 221 = (some .boolean) := by decide +kernel
theorem mmx_221 : mmax 221 = 3 := by decide +kernel
theorem mcs_221 : mcls 221 = some 10 := by decide +kernel
theorem mo_222 (pc : Nat) {i : Instr} (h : mt_222.lookup pc = some i) : mop 222 pc = some i := h
theorem mow_222 : mown 222 = 13 := by decide +kernel
theorem mrt_222 : mret 222 = (some .int) := by decide +kernel
theorem mmx_222 : mmax 222 = 2 := by decide +kernel
theorem mcs_222 : mcls 222 = some 10 := by decide +kernel
theorem mo_223 (pc : Nat) {i : Instr} (h : mt_223.lookup pc = some i) : mop 223 pc = some i := h
theorem mow_223 : mown 223 = 13 := by decide +kernel
theorem mrt_223 : mret 223 = (some .boolean) := by decide +kernel
theorem mmx_223 : mmax 223 = 2 := by decide +kernel
theorem mcs_223 : mcls 223 = some 10 := by decide +kernel
theorem mo_224 (pc : Nat) {i : Instr} (h : mt_224.lookup pc = some i) : mop 224 pc = some i := h
theorem mow_224 : mown 224 = 13 := by decide +kernel
theorem mrt_224 : mret 224 = (some .boolean) := by decide +kernel
theorem mmx_224 : mmax 224 = 6 := by decide +kernel
theorem mcs_224 : mcls 224 = some 10 := by decide +kernel
theorem mo_225 (pc : Nat) {i : Instr} (h : mt_225.lookup pc = some i) : mop 225 pc = some i := h
theorem mow_225 : mown 225 = 13 := by decide +kernel
theorem mrt_225 : mret 225 = none := by decide +kernel
theorem mmx_225 : mmax 225 = 6 := by decide +kernel
theorem mcs_225 : mcls 225 = some 10 := by decide +kernel
theorem mo_226 (pc : Nat) {i : Instr} (h : mt_226.lookup pc = some i) : mop 226 pc = some i := h
theorem mow_226 : mown 226 = 13 := by decide +kernel
theorem mrt_226 : mret 226 = none := by decide +kernel
theorem mmx_226 : mmax 226 = 7 := by decide +kernel
theorem mcs_226 : mcls 226 = some 10 := by decide +kernel
theorem mo_227 (pc : Nat) {i : Instr} (h : mt_227.lookup pc = some i) : mop 227 pc = some i := h
theorem mow_227 : mown 227 = 13 := by decide +kernel
theorem mrt_227 : mret 227 = (some .int) := by decide +kernel
theorem mmx_227 : mmax 227 = 5 := by decide +kernel
theorem mcs_227 : mcls 227 = some 10 := by decide +kernel
theorem mo_228 (pc : Nat) {i : Instr} (h : mt_228.lookup pc = some i) : mop 228 pc = some i := h
theorem mow_228 : mown 228 = 13 := by decide +kernel
theorem mrt_228 : mret 228 = (some .int) := by decide +kernel
theorem mmx_228 : mmax 228 = 4 := by decide +kernel
theorem mcs_228 : mcls 228 = some 10 := by decide +kernel
theorem mo_229 (pc : Nat) {i : Instr} (h : mt_229.lookup pc = some i) : mop 229 pc = some i := h
theorem mow_229 : mown 229 = 13 := by decide +kernel
theorem mrt_229 : mret 229 = (some .int) := by decide +kernel
theorem mmx_229 : mmax 229 = 3 := by decide +kernel
theorem mcs_229 : mcls 229 = some 10 := by decide +kernel
theorem mo_230 (pc : Nat) {i : Instr} (h : mt_230.lookup pc = some i) : mop 230 pc = some i := h
theorem mow_230 : mown 230 = 13 := by decide +kernel
theorem mrt_230 : mret 230 = (some .int) := by decide +kernel
theorem mmx_230 : mmax 230 = 6 := by decide +kernel
theorem mcs_230 : mcls 230 = some 10 := by decide +kernel
theorem mo_231 (pc : Nat) {i : Instr} (h : mt_231.lookup pc = some i) : mop 231 pc = some i := h
theorem mow_231 : mown 231 = 13 := by decide +kernel
theorem mrt_231 : mret 231 = (some .int) := by decide +kernel
theorem mmx_231 : mmax 231 = 4 := by decide +kernel
theorem mcs_231 : mcls 231 = some 10 := by decide +kernel
theorem mo_232 (pc : Nat) {i : Instr} (h : mt_232.lookup pc = some i) : mop 232 pc = some i := h
theorem mow_232 : mown 232 = 13 := by decide +kernel
theorem mrt_232 : mret 232 = (some .int) := by decide +kernel
theorem mmx_232 : mmax 232 = 2 := by decide +kernel
theorem mcs_232 : mcls 232 = some 10 := by decide +kernel
theorem mo_233 (pc : Nat) {i : Instr} (h : mt_233.lookup pc = some i) : mop 233 pc = some i := h
theorem mow_233 : mown 233 = 13 := by decide +kernel
theorem mrt_233 : mret 233 = (some .int) := by decide +kernel
theorem mmx_233 : mmax 233 = 7 := by decide +kernel
theorem mcs_233 : mcls 233 = some 10 := by decide +kernel
theorem mo_234 (pc : Nat) {i : Instr} (h : mt_234.lookup pc = some i) : mop 234 pc = some i := h
theorem mow_234 : mown 234 = 13 := by decide +kernel
theorem mrt_234 : mret 234 = none := by decide +kernel
theorem mmx_234 : mmax 234 = 7 := by decide +kernel
theorem mcs_234 : mcls 234 = some 10 := by decide +kernel
theorem mo_235 (pc : Nat) {i : Instr} (h : mt_235.lookup pc = some i) : mop 235 pc = some i := h
theorem mow_235 : mown 235 = 13 := by decide +kernel
theorem mrt_235 : mret 235 = none := by decide +kernel
theorem mmx_235 : mmax 235 = 5 := by decide +kernel
theorem mcs_235 : mcls 235 = some 10 := by decide +kernel
theorem mo_236 (pc : Nat) {i : Instr} (h : mt_236.lookup pc = some i) : mop 236 pc = some i := h
theorem mow_236 : mown 236 = 13 := by decide +kernel
theorem mrt_236 : mret 236 = (some .int) := by decide +kernel
theorem mmx_236 : mmax 236 = 3 := by decide +kernel
theorem mo_237 (pc : Nat) {i : Instr} (h : mt_237.lookup pc = some i) : mop 237 pc = some i := h
theorem mow_237 : mown 237 = 13 := by decide +kernel
theorem mrt_237 : mret 237 = (some .int) := by decide +kernel
theorem mmx_237 : mmax 237 = 12 := by decide +kernel
theorem mcs_237 : mcls 237 = some 10 := by decide +kernel
theorem mo_238 (pc : Nat) {i : Instr} (h : mt_238.lookup pc = some i) : mop 238 pc = some i := h
theorem mow_238 : mown 238 = 13 := by decide +kernel
theorem mrt_238 : mret 238 = (some .int) := by decide +kernel
theorem mmx_238 : mmax 238 = 4 := by decide +kernel
theorem mcs_238 : mcls 238 = some 10 := by decide +kernel
theorem mo_239 (pc : Nat) {i : Instr} (h : mt_239.lookup pc = some i) : mop 239 pc = some i := h
theorem mow_239 : mown 239 = 13 := by decide +kernel
theorem mrt_239 : mret 239 = (some .int) := by decide +kernel
theorem mmx_239 : mmax 239 = 5 := by decide +kernel
theorem mcs_239 : mcls 239 = some 10 := by decide +kernel
theorem mo_240 (pc : Nat) {i : Instr} (h : mt_240.lookup pc = some i) : mop 240 pc = some i := h
theorem mow_240 : mown 240 = 13 := by decide +kernel
theorem mrt_240 : mret 240 = (some .boolean) := by decide +kernel
theorem mmx_240 : mmax 240 = 6 := by decide +kernel
theorem mcs_240 : mcls 240 = some 10 := by decide +kernel
theorem mo_241 (pc : Nat) {i : Instr} (h : mt_241.lookup pc = some i) : mop 241 pc = some i := h
theorem mow_241 : mown 241 = 13 := by decide +kernel
theorem mrt_241 : mret 241 = none := by decide +kernel
theorem mmx_241 : mmax 241 = 4 := by decide +kernel
theorem mcs_241 : mcls 241 = some 10 := by decide +kernel
theorem mo_242 (pc : Nat) {i : Instr} (h : mt_242.lookup pc = some i) : mop 242 pc = some i := h
theorem mow_242 : mown 242 = 13 := by decide +kernel
theorem mrt_242 : mret 242 = (some .int) := by decide +kernel
theorem mmx_242 : mmax 242 = 7 := by decide +kernel
theorem mcs_242 : mcls 242 = some 10 := by decide +kernel
theorem mo_243 (pc : Nat) {i : Instr} (h : mt_243.lookup pc = some i) : mop 243 pc = some i := h
theorem mow_243 : mown 243 = 13 := by decide +kernel
theorem mrt_243 : mret 243 = (some .boolean) := by decide +kernel
theorem mmx_243 : mmax 243 = 7 := by decide +kernel
theorem mcs_243 : mcls 243 = some 10 := by decide +kernel
theorem mo_244 (pc : Nat) {i : Instr} (h : mt_244.lookup pc = some i) : mop 244 pc = some i := h
theorem mow_244 : mown 244 = 13 := by decide +kernel
theorem mrt_244 : mret 244 = (some .int) := by decide +kernel
theorem mmx_244 : mmax 244 = 4 := by decide +kernel
theorem mcs_244 : mcls 244 = some 10 := by decide +kernel
theorem mo_245 (pc : Nat) {i : Instr} (h : mt_245.lookup pc = some i) : mop 245 pc = some i := h
theorem mow_245 : mown 245 = 13 := by decide +kernel
theorem mrt_245 : mret 245 = (some .int) := by decide +kernel
theorem mmx_245 : mmax 245 = 5 := by decide +kernel
theorem mcs_245 : mcls 245 = some 10 := by decide +kernel
theorem mo_246 (pc : Nat) {i : Instr} (h : mt_246.lookup pc = some i) : mop 246 pc = some i := h
theorem mow_246 : mown 246 = 13 := by decide +kernel
theorem mrt_246 : mret 246 = (some .int) := by decide +kernel
theorem mmx_246 : mmax 246 = 2 := by decide +kernel
theorem mo_247 (pc : Nat) {i : Instr} (h : mt_247.lookup pc = some i) : mop 247 pc = some i := h
theorem mow_247 : mown 247 = 13 := by decide +kernel
theorem mrt_247 : mret 247 = (some .int) := by decide +kernel
theorem mmx_247 : mmax 247 = 7 := by decide +kernel
theorem mcs_247 : mcls 247 = some 10 := by decide +kernel
theorem mo_248 (pc : Nat) {i : Instr} (h : mt_248.lookup pc = some i) : mop 248 pc = some i := h
theorem mow_248 : mown 248 = 13 := by decide +kernel
theorem mrt_248 : mret 248 = (some .int) := by decide +kernel
theorem mmx_248 : mmax 248 = 7 := by decide +kernel
theorem mcs_248 : mcls 248 = some 10 := by decide +kernel
theorem mo_249 (pc : Nat) {i : Instr} (h : mt_249.lookup pc = some i) : mop 249 pc = some i := h
theorem mow_249 : mown 249 = 13 := by decide +kernel
theorem mrt_249 : mret 249 = (some .int) := by decide +kernel
theorem mmx_249 : mmax 249 = 6 := by decide +kernel
theorem mcs_249 : mcls 249 = some 10 := by decide +kernel
theorem mo_250 (pc : Nat) {i : Instr} (h : mt_250.lookup pc = some i) : mop 250 pc = some i := h
theorem mow_250 : mown 250 = 13 := by decide +kernel
theorem mrt_250 : mret 250 = (some .int) := by decide +kernel
theorem mmx_250 : mmax 250 = 7 := by decide +kernel
theorem mcs_250 : mcls 250 = some 10 := by decide +kernel
theorem mo_251 (pc : Nat) {i : Instr} (h : mt_251.lookup pc = some i) : mop 251 pc = some i := h
theorem mow_251 : mown 251 = 13 := by decide +kernel
theorem mrt_251 : mret 251 = (some .int) := by decide +kernel
theorem mmx_251 : mmax 251 = 6 := by decide +kernel
theorem mcs_251 : mcls 251 = some 10 := by decide +kernel
theorem mo_252 (pc : Nat) {i : Instr} (h : mt_252.lookup pc = some i) : mop 252 pc = some i := h
theorem mow_252 : mown 252 = 13 := by decide +kernel
theorem mrt_252 : mret 252 = (some .boolean) := by decide +kernel
theorem mmx_252 : mmax 252 = 6 := by decide +kernel
theorem mcs_252 : mcls 252 = some 10 := by decide +kernel
theorem mo_253 (pc : Nat) {i : Instr} (h : mt_253.lookup pc = some i) : mop 253 pc = some i := h
theorem mow_253 : mown 253 = 13 := by decide +kernel
theorem mrt_253 : mret 253 = (some .int) := by decide +kernel
theorem mmx_253 : mmax 253 = 6 := by decide +kernel
theorem mcs_253 : mcls 253 = some 10 := by decide +kernel
theorem mo_254 (pc : Nat) {i : Instr} (h : mt_254.lookup pc = some i) : mop 254 pc = some i := h
theorem mow_254 : mown 254 = 13 := by decide +kernel
theorem mrt_254 : mret 254 = (some .int) := by decide +kernel
theorem mmx_254 : mmax 254 = 6 := by decide +kernel
theorem mcs_254 : mcls 254 = some 10 := by decide +kernel
theorem mo_255 (pc : Nat) {i : Instr} (h : mt_255.lookup pc = some i) : mop 255 pc = some i := h
theorem mow_255 : mown 255 = 13 := by decide +kernel
theorem mrt_255 : mret 255 = none := by decide +kernel
theorem mmx_255 : mmax 255 = 4 := by decide +kernel
theorem mcs_255 : mcls 255 = some 10 := by decide +kernel
theorem mo_256 (pc : Nat) {i : Instr} (h : mt_256.lookup pc = some i) : mop 256 pc = some i := h
theorem mow_256 : mown 256 = 13 := by decide +kernel
theorem mrt_256 : mret 256 = none := by decide +kernel
theorem mmx_256 : mmax 256 = 3 := by decide +kernel
theorem mcs_256 : mcls 256 = some 10 := by decide +kernel
theorem mo_257 (pc : Nat) {i : Instr} (h : mt_257.lookup pc = some i) : mop 257 pc = some i := h
theorem mow_257 : mown 257 = 13 := by decide +kernel
theorem mrt_257 : mret 257 = (some .int) := by decide +kernel
theorem mmx_257 : mmax 257 = 3 := by decide +kernel
theorem mcs_257 : mcls 257 = some 10 := by decide +kernel
theorem mo_258 (pc : Nat) {i : Instr} (h : mt_258.lookup pc = some i) : mop 258 pc = some i := h
theorem mow_258 : mown 258 = 13 := by decide +kernel
theorem mrt_258 : mret 258 = none := by decide +kernel
theorem mmx_258 : mmax 258 = 5 := by decide +kernel
theorem mcs_258 : mcls 258 = some 10 := by decide +kernel
theorem mo_259 (pc : Nat) {i : Instr} (h : mt_259.lookup pc = some i) : mop 259 pc = some i := h
theorem mow_259 : mown 259 = 13 := by decide +kernel
theorem mrt_259 : mret 259 = (some .int) := by decide +kernel
theorem mmx_259 : mmax 259 = 6 := by decide +kernel
theorem mcs_259 : mcls 259 = some 10 := by decide +kernel
theorem mo_260 (pc : Nat) {i : Instr} (h : mt_260.lookup pc = some i) : mop 260 pc = some i := h
theorem mow_260 : mown 260 = 13 := by decide +kernel
theorem mrt_260 : mret 260 = (some .int) := by decide +kernel
theorem mmx_260 : mmax 260 = 6 := by decide +kernel
theorem mcs_260 : mcls 260 = some 10 := by decide +kernel
theorem mo_261 (pc : Nat) {i : Instr} (h : mt_261.lookup pc = some i) : mop 261 pc = some i := h
theorem mow_261 : mown 261 = 13 := by decide +kernel
theorem mrt_261 : mret 261 = (some .int) := by decide +kernel
theorem mmx_261 : mmax 261 = 7 := by decide +kernel
theorem mcs_261 : mcls 261 = some 10 := by decide +kernel
theorem mo_262 (pc : Nat) {i : Instr} (h : mt_262.lookup pc = some i) : mop 262 pc = some i := h
theorem mow_262 : mown 262 = 13 := by decide +kernel
theorem mrt_262 : mret 262 = (some .int) := by decide +kernel
theorem mmx_262 : mmax 262 = 6 := by decide +kernel
theorem mcs_262 : mcls 262 = some 10 := by decide +kernel
theorem mo_263 (pc : Nat) {i : Instr} (h : mt_263.lookup pc = some i) : mop 263 pc = some i := h
theorem mow_263 : mown 263 = 13 := by decide +kernel
theorem mrt_263 : mret 263 = (some .boolean) := by decide +kernel
theorem mmx_263 : mmax 263 = 6 := by decide +kernel
theorem mcs_263 : mcls 263 = some 10 := by decide +kernel
theorem mo_264 (pc : Nat) {i : Instr} (h : mt_264.lookup pc = some i) : mop 264 pc = some i := h
theorem mow_264 : mown 264 = 13 := by decide +kernel
theorem mrt_264 : mret 264 = (some .int) := by decide +kernel
theorem mmx_264 : mmax 264 = 4 := by decide +kernel
theorem mcs_264 : mcls 264 = some 10 := by decide +kernel
theorem mo_265 (pc : Nat) {i : Instr} (h : mt_265.lookup pc = some i) : mop 265 pc = some i := h
theorem mow_265 : mown 265 = 13 := by decide +kernel
theorem mrt_265 : mret 265 = (some .long) := by decide +kernel
theorem mmx_265 : mmax 265 = 6 := by decide +kernel
theorem mcs_265 : mcls 265 = some 10 := by decide +kernel
theorem mo_266 (pc : Nat) {i : Instr} (h : mt_266.lookup pc = some i) : mop 266 pc = some i := h
theorem mow_266 : mown 266 = 13 := by decide +kernel
theorem mrt_266 : mret 266 = (some .int) := by decide +kernel
theorem mmx_266 : mmax 266 = 5 := by decide +kernel
theorem mcs_266 : mcls 266 = some 10 := by decide +kernel
theorem mo_267 (pc : Nat) {i : Instr} (h : mt_267.lookup pc = some i) : mop 267 pc = some i := h
theorem mow_267 : mown 267 = 13 := by decide +kernel
theorem mrt_267 : mret 267 = (some .int) := by decide +kernel
theorem mmx_267 : mmax 267 = 6 := by decide +kernel
theorem mcs_267 : mcls 267 = some 10 := by decide +kernel
theorem mo_268 (pc : Nat) {i : Instr} (h : mt_268.lookup pc = some i) : mop 268 pc = some i := h
theorem mow_268 : mown 268 = 13 := by decide +kernel
theorem mrt_268 : mret 268 = (some .int) := by decide +kernel
theorem mmx_268 : mmax 268 = 2 := by decide +kernel
theorem mo_269 (pc : Nat) {i : Instr} (h : mt_269.lookup pc = some i) : mop 269 pc = some i := h
theorem mow_269 : mown 269 = 13 := by decide +kernel
theorem mrt_269 : mret 269 = (some .long) := by decide +kernel
theorem mmx_269 : mmax 269 = 7 := by decide +kernel
theorem mcs_269 : mcls 269 = some 10 := by decide +kernel
theorem mo_270 (pc : Nat) {i : Instr} (h : mt_270.lookup pc = some i) : mop 270 pc = some i := h
theorem mow_270 : mown 270 = 13 := by decide +kernel
theorem mrt_270 : mret 270 = (some .int) := by decide +kernel
theorem mmx_270 : mmax 270 = 7 := by decide +kernel
theorem mcs_270 : mcls 270 = some 10 := by decide +kernel
theorem mo_271 (pc : Nat) {i : Instr} (h : mt_271.lookup pc = some i) : mop 271 pc = some i := h
theorem mow_271 : mown 271 = 13 := by decide +kernel
theorem mrt_271 : mret 271 = (some .long) := by decide +kernel
theorem mmx_271 : mmax 271 = 6 := by decide +kernel
theorem mcs_271 : mcls 271 = some 10 := by decide +kernel
theorem mo_272 (pc : Nat) {i : Instr} (h : mt_272.lookup pc = some i) : mop 272 pc = some i := h
theorem mow_272 : mown 272 = 13 := by decide +kernel
theorem mrt_272 : mret 272 = (some .int) := by decide +kernel
theorem mmx_272 : mmax 272 = 5 := by decide +kernel
theorem mcs_272 : mcls 272 = some 10 := by decide +kernel
theorem mo_273 (pc : Nat) {i : Instr} (h : mt_273.lookup pc = some i) : mop 273 pc = some i := h
theorem mow_273 : mown 273 = 13 := by decide +kernel
theorem mrt_273 : mret 273 = (some .long) := by decide +kernel
theorem mmx_273 : mmax 273 = 9 := by decide +kernel
theorem mcs_273 : mcls 273 = some 10 := by decide +kernel
theorem mo_274 (pc : Nat) {i : Instr} (h : mt_274.lookup pc = some i) : mop 274 pc = some i := h
theorem mow_274 : mown 274 = 13 := by decide +kernel
theorem mrt_274 : mret 274 = (some .long) := by decide +kernel
theorem mmx_274 : mmax 274 = 6 := by decide +kernel
theorem mo_275 (pc : Nat) {i : Instr} (h : mt_275.lookup pc = some i) : mop 275 pc = some i := h
theorem mow_275 : mown 275 = 13 := by decide +kernel
theorem mrt_275 : mret 275 = (some .long) := by decide +kernel
theorem mmx_275 : mmax 275 = 6 := by decide +kernel
theorem mo_276 (pc : Nat) {i : Instr} (h : mt_276.lookup pc = some i) : mop 276 pc = some i := h
theorem mow_276 : mown 276 = 13 := by decide +kernel
theorem mrt_276 : mret 276 = (some .long) := by decide +kernel
theorem mmx_276 : mmax 276 = 6 := by decide +kernel
theorem mo_277 (pc : Nat) {i : Instr} (h : mt_277.lookup pc = some i) : mop 277 pc = some i := h
theorem mow_277 : mown 277 = 13 := by decide +kernel
theorem mrt_277 : mret 277 = (some .long) := by decide +kernel
theorem mmx_277 : mmax 277 = 10 := by decide +kernel
theorem mo_278 (pc : Nat) {i : Instr} (h : mt_278.lookup pc = some i) : mop 278 pc = some i := h
theorem mow_278 : mown 278 = 13 := by decide +kernel
theorem mrt_278 : mret 278 = (some .int) := by decide +kernel
theorem mmx_278 : mmax 278 = 10 := by decide +kernel
theorem mcs_278 : mcls 278 = some 10 := by decide +kernel
theorem mo_279 (pc : Nat) {i : Instr} (h : mt_279.lookup pc = some i) : mop 279 pc = some i := h
theorem mow_279 : mown 279 = 13 := by decide +kernel
theorem mrt_279 : mret 279 = (some .int) := by decide +kernel
theorem mmx_279 : mmax 279 = 6 := by decide +kernel
theorem mcs_279 : mcls 279 = some 10 := by decide +kernel
theorem mo_280 (pc : Nat) {i : Instr} (h : mt_280.lookup pc = some i) : mop 280 pc = some i := h
theorem mow_280 : mown 280 = 13 := by decide +kernel
theorem mrt_280 : mret 280 = none := by decide +kernel
theorem mmx_280 : mmax 280 = 6 := by decide +kernel
theorem mcs_280 : mcls 280 = some 10 := by decide +kernel
theorem mo_281 (pc : Nat) {i : Instr} (h : mt_281.lookup pc = some i) : mop 281 pc = some i := h
theorem mow_281 : mown 281 = 13 := by decide +kernel
theorem mrt_281 : mret 281 = (some .int) := by decide +kernel
theorem mmx_281 : mmax 281 = 2 := by decide +kernel
theorem mcs_281 : mcls 281 = some 10 := by decide +kernel
theorem mo_282 (pc : Nat) {i : Instr} (h : mt_282.lookup pc = some i) : mop 282 pc = some i := h
theorem mow_282 : mown 282 = 13 := by decide +kernel
theorem mrt_282 : mret 282 = (some .int) := by decide +kernel
theorem mmx_282 : mmax 282 = 3 := by decide +kernel
theorem mcs_282 : mcls 282 = some 10 := by decide +kernel
theorem mo_283 (pc : Nat) {i : Instr} (h : mt_283.lookup pc = some i) : mop 283 pc = some i := h
theorem mow_283 : mown 283 = 13 := by decide +kernel
theorem mrt_283 : mret 283 = (some .int) := by decide +kernel
theorem mmx_283 : mmax 283 = 2 := by decide +kernel
theorem mcs_283 : mcls 283 = some 10 := by decide +kernel
theorem mo_284 (pc : Nat) {i : Instr} (h : mt_284.lookup pc = some i) : mop 284 pc = some i := h
theorem mow_284 : mown 284 = 13 := by decide +kernel
theorem mrt_284 : mret 284 = (some .boolean) := by decide +kernel
theorem mmx_284 : mmax 284 = 3 := by decide +kernel
theorem mcs_284 : mcls 284 = some 10 := by decide +kernel
theorem mo_285 (pc : Nat) {i : Instr} (h : mt_285.lookup pc = some i) : mop 285 pc = some i := h
theorem mow_285 : mown 285 = 13 := by decide +kernel
theorem mrt_285 : mret 285 = (some .boolean) := by decide +kernel
theorem mmx_285 : mmax 285 = 3 := by decide +kernel
theorem mcs_285 : mcls 285 = some 10 := by decide +kernel
theorem mo_286 (pc : Nat) {i : Instr} (h : mt_286.lookup pc = some i) : mop 286 pc = some i := h
theorem mow_286 : mown 286 = 14 := by decide +kernel
theorem mrt_286 : mret 286 = (some .int) := by decide +kernel
theorem mmx_286 : mmax 286 = 1 := by decide +kernel
theorem mo_287 (pc : Nat) {i : Instr} (h : mt_287.lookup pc = some i) : mop 287 pc = some i := h
theorem mow_287 : mown 287 = 14 := by decide +kernel
theorem mrt_287 : mret 287 = (some .int) := by decide +kernel
theorem mmx_287 : mmax 287 = 1 := by decide +kernel
theorem mo_288 (pc : Nat) {i : Instr} (h : mt_288.lookup pc = some i) : mop 288 pc = some i := h
theorem mow_288 : mown 288 = 15 := by decide +kernel
theorem mrt_288 : mret 288 = (some .int) := by decide +kernel
theorem mmx_288 : mmax 288 = 2 := by decide +kernel
theorem mo_289 (pc : Nat) {i : Instr} (h : mt_289.lookup pc = some i) : mop 289 pc = some i := h
theorem mow_289 : mown 289 = 15 := by decide +kernel
theorem mrt_289 : mret 289 = (some .int) := by decide +kernel
theorem mmx_289 : mmax 289 = 2 := by decide +kernel
theorem mo_290 (pc : Nat) {i : Instr} (h : mt_290.lookup pc = some i) : mop 290 pc = some i := h
theorem mow_290 : mown 290 = 15 := by decide +kernel
theorem mrt_290 : mret 290 = (some .int) := by decide +kernel
theorem mmx_290 : mmax 290 = 1 := by decide +kernel
theorem mo_291 (pc : Nat) {i : Instr} (h : mt_291.lookup pc = some i) : mop 291 pc = some i := h
theorem mow_291 : mown 291 = 16 := by decide +kernel
theorem mrt_291 : mret 291 = none := by decide +kernel
theorem mmx_291 : mmax 291 = 4 := by decide +kernel
theorem mo_292 (pc : Nat) {i : Instr} (h : mt_292.lookup pc = some i) : mop 292 pc = some i := h
theorem mow_292 : mown 292 = 17 := by decide +kernel
theorem mrt_292 : mret 292 = none := by decide +kernel
theorem mmx_292 : mmax 292 = 1 := by decide +kernel
