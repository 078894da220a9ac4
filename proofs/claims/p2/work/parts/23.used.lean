theorem bip_m20 : (Int8.ofInt (-20)).toInt32 = Int32.ofInt (-20) := by decide
theorem bip_m19 : (Int8.ofInt (-19)).toInt32 = Int32.ofInt (-19) := by decide
theorem bip_m18 : (Int8.ofInt (-18)).toInt32 = Int32.ofInt (-18) := by decide
theorem bip_m17 : (Int8.ofInt (-17)).toInt32 = Int32.ofInt (-17) := by decide
theorem bip_m16 : (Int8.ofInt (-16)).toInt32 = Int32.ofInt (-16) := by decide
theorem bip_m15 : (Int8.ofInt (-15)).toInt32 = Int32.ofInt (-15) := by decide
theorem bip_m14 : (Int8.ofInt (-14)).toInt32 = Int32.ofInt (-14) := by decide
theorem bip_m13 : (Int8.ofInt (-13)).toInt32 = Int32.ofInt (-13) := by decide
theorem bip_m12 : (Int8.ofInt (-12)).toInt32 = Int32.ofInt (-12) := by decide
theorem bip_m11 : (Int8.ofInt (-11)).toInt32 = Int32.ofInt (-11) := by decide
theorem bip_m7 : (Int8.ofInt (-7)).toInt32 = Int32.ofInt (-7) := by decide
theorem bip_m6 : (Int8.ofInt (-6)).toInt32 = Int32.ofInt (-6) := by decide
theorem bip_m5 : (Int8.ofInt (-5)).toInt32 = Int32.ofInt (-5) := by decide
theorem bip_m4 : (Int8.ofInt (-4)).toInt32 = Int32.ofInt (-4) := by decide
theorem bip_m3 : (Int8.ofInt (-3)).toInt32 = Int32.ofInt (-3) := by decide
theorem bip_m2 : (Int8.ofInt (-2)).toInt32 = Int32.ofInt (-2) := by decide
theorem bip_6 : (Int8.ofInt 6).toInt32 = Int32.ofInt 6 := by decide
theorem bip_7 : (Int8.ofInt 7).toInt32 = Int32.ofInt 7 := by decide
theorem bip_8 : (Int8.ofInt 8).toInt32 = Int32.ofInt 8 := by decide
theorem bip_9 : (Int8.ofInt 9).toInt32 = Int32.ofInt 9 := by decide
theorem bip_10 : (Int8.ofInt 10).toInt32 = Int32.ofInt 10 := by decide
theorem bip_12 : (Int8.ofInt 12).toInt32 = Int32.ofInt 12 := by decide
theorem bip_16 : (Int8.ofInt 16).toInt32 = Int32.ofInt 16 := by decide
theorem bip_20 : (Int8.ofInt 20).toInt32 = Int32.ofInt 20 := by decide
theorem bip_24 : (Int8.ofInt 24).toInt32 = Int32.ofInt 24 := by decide
theorem bip_25 : (Int8.ofInt 25).toInt32 = Int32.ofInt 25 := by decide
theorem bip_26 : (Int8.ofInt 26).toInt32 = Int32.ofInt 26 := by decide
theorem bip_32 : (Int8.ofInt 32).toInt32 = Int32.ofInt 32 := by decide
theorem bip_40 : (Int8.ofInt 40).toInt32 = Int32.ofInt 40 := by decide
theorem bip_41 : (Int8.ofInt 41).toInt32 = Int32.ofInt 41 := by decide
theorem bip_42 : (Int8.ofInt 42).toInt32 = Int32.ofInt 42 := by decide
theorem bip_43 : (Int8.ofInt 43).toInt32 = Int32.ofInt 43 := by decide
theorem bip_45 : (Int8.ofInt 45).toInt32 = Int32.ofInt 45 := by decide
theorem bip_47 : (Int8.ofInt 47).toInt32 = Int32.ofInt 47 := by decide
theorem bip_48 : (Int8.ofInt 48).toInt32 = Int32.ofInt 48 := by decide
theorem bip_57 : (Int8.ofInt 57).toInt32 = Int32.ofInt 57 := by decide
theorem bip_59 : (Int8.ofInt 59).toInt32 = Int32.ofInt 59 := by decide
theorem bip_60 : (Int8.ofInt 60).toInt32 = Int32.ofInt 60 := by decide
theorem bip_61 : (Int8.ofInt 61).toInt32 = Int32.ofInt 61 := by decide
theorem bip_63 : (Int8.ofInt 63).toInt32 = Int32.ofInt 63 := by decide
theorem bip_97 : (Int8.ofInt 97).toInt32 = Int32.ofInt 97 := by decide
theorem bip_122 : (Int8.ofInt 122).toInt32 = Int32.ofInt 122 := by decide
theorem sip_255 : (Int16.ofInt 255).toInt32 = Int32.ofInt 255 := by decide
theorem sip_700 : (Int16.ofInt 700).toInt32 = Int32.ofInt 700 := by decide
theorem sip_999 : (Int16.ofInt 999).toInt32 = Int32.ofInt 999 := by decide
theorem sip_12345 : (Int16.ofInt 12345).toInt32 = Int32.ofInt 12345 := by decide
theorem sip_32767 : (Int16.ofInt 32767).toInt32 = Int32.ofInt 32767 := by decide
theorem fd_0_7 : mm_tab mm_fldT 0 7 = some (0, 1, 0) ∧ mm_tab mm_ftT 0 1 = some 0 := ⟨rfl, rfl⟩
theorem fd_0_13 : mm_tab mm_fldT 0 13 = some (0, 0, 0) ∧ mm_tab mm_ftT 0 0 = some 6 := ⟨rfl, rfl⟩
theorem fd_1_12 : mm_tab mm_fldT 1 12 = some (1, 0, 0) ∧ mm_tab mm_ftT 1 0 = some 6 := ⟨rfl, rfl⟩
theorem fd_1_21 : mm_tab mm_fldT 1 21 = some (1, 1, 0) ∧ mm_tab mm_ftT 1 1 = some 6 := ⟨rfl, rfl⟩
theorem fd_1_25 : mm_tab mm_fldT 1 25 = some (1, 2, 0) ∧ mm_tab mm_ftT 1 2 = some 6 := ⟨rfl, rfl⟩
theorem fd_1_29 : mm_tab mm_fldT 1 29 = some (1, 3, 0) ∧ mm_tab mm_ftT 1 3 = some 0 := ⟨rfl, rfl⟩
theorem fd_1_36 : mm_tab mm_fldT 1 36 = some (1, 4, 0) ∧ mm_tab mm_ftT 1 4 = some 6 := ⟨rfl, rfl⟩
theorem fd_1_43 : mm_tab mm_fldT 1 43 = some (9, 2, 1) ∧ mm_tab mm_ftT 9 2 = some 0 := ⟨rfl, rfl⟩
theorem fd_1_57 : mm_tab mm_fldT 1 57 = some (8, 0, 1) ∧ mm_tab mm_ftT 8 0 = some 0 := ⟨rfl, rfl⟩
theorem fd_1_72 : mm_tab mm_fldT 1 72 = some (8, 1, 1) ∧ mm_tab mm_ftT 8 1 = some 0 := ⟨rfl, rfl⟩
theorem fd_1_81 : mm_tab mm_fldT 1 81 = some (8, 3, 1) ∧ mm_tab mm_ftT 8 3 = some 0 := ⟨rfl, rfl⟩
theorem fd_1_110 : mm_tab mm_fldT 1 110 = some (9, 3, 1) ∧ mm_tab mm_ftT 9 3 = some 0 := ⟨rfl, rfl⟩
theorem fd_1_120 : mm_tab mm_fldT 1 120 = some (8, 2, 1) ∧ mm_tab mm_ftT 8 2 = some 0 := ⟨rfl, rfl⟩
theorem fd_1_146 : mm_tab mm_fldT 1 146 = some (8, 4, 1) ∧ mm_tab mm_ftT 8 4 = some 1 := ⟨rfl, rfl⟩
theorem fd_2_9 : mm_tab mm_fldT 2 9 = some (2, 0, 0) ∧ mm_tab mm_ftT 2 0 = some 6 := ⟨rfl, rfl⟩
theorem fd_3_9 : mm_tab mm_fldT 3 9 = some (3, 0, 0) ∧ mm_tab mm_ftT 3 0 = some 6 := ⟨rfl, rfl⟩
theorem fd_3_15 : mm_tab mm_fldT 3 15 = some (3, 1, 0) ∧ mm_tab mm_ftT 3 1 = some 6 := ⟨rfl, rfl⟩
theorem fd_3_18 : mm_tab mm_fldT 3 18 = some (3, 2, 0) ∧ mm_tab mm_ftT 3 2 = some 6 := ⟨rfl, rfl⟩
theorem fd_3_21 : mm_tab mm_fldT 3 21 = some (3, 3, 0) ∧ mm_tab mm_ftT 3 3 = some 0 := ⟨rfl, rfl⟩
theorem fd_4_12 : mm_tab mm_fldT 4 12 = some (4, 0, 0) ∧ mm_tab mm_ftT 4 0 = some 6 := ⟨rfl, rfl⟩
theorem fd_4_18 : mm_tab mm_fldT 4 18 = some (4, 1, 0) ∧ mm_tab mm_ftT 4 1 = some 0 := ⟨rfl, rfl⟩
theorem fd_4_22 : mm_tab mm_fldT 4 22 = some (4, 2, 0) ∧ mm_tab mm_ftT 4 2 = some 0 := ⟨rfl, rfl⟩
theorem fd_4_25 : mm_tab mm_fldT 4 25 = some (4, 3, 0) ∧ mm_tab mm_ftT 4 3 = some 6 := ⟨rfl, rfl⟩
theorem fd_4_29 : mm_tab mm_fldT 4 29 = some (4, 4, 0) ∧ mm_tab mm_ftT 4 4 = some 0 := ⟨rfl, rfl⟩
theorem fd_4_32 : mm_tab mm_fldT 4 32 = some (4, 5, 0) ∧ mm_tab mm_ftT 4 5 = some 0 := ⟨rfl, rfl⟩
theorem fd_4_35 : mm_tab mm_fldT 4 35 = some (4, 6, 0) ∧ mm_tab mm_ftT 4 6 = some 0 := ⟨rfl, rfl⟩
theorem fd_4_38 : mm_tab mm_fldT 4 38 = some (4, 7, 0) ∧ mm_tab mm_ftT 4 7 = some 1 := ⟨rfl, rfl⟩
theorem fd_4_42 : mm_tab mm_fldT 4 42 = some (4, 8, 0) ∧ mm_tab mm_ftT 4 8 = some 1 := ⟨rfl, rfl⟩
theorem fd_4_61 : mm_tab mm_fldT 4 61 = some (1, 0, 1) ∧ mm_tab mm_ftT 1 0 = some 6 := ⟨rfl, rfl⟩
theorem fd_4_87 : mm_tab mm_fldT 4 87 = some (1, 4, 1) ∧ mm_tab mm_ftT 1 4 = some 6 := ⟨rfl, rfl⟩
theorem fd_4_132 : mm_tab mm_fldT 4 132 = some (1, 1, 1) ∧ mm_tab mm_ftT 1 1 = some 6 := ⟨rfl, rfl⟩
theorem fd_4_136 : mm_tab mm_fldT 4 136 = some (9, 2, 1) ∧ mm_tab mm_ftT 9 2 = some 0 := ⟨rfl, rfl⟩
theorem fd_4_145 : mm_tab mm_fldT 4 145 = some (1, 3, 1) ∧ mm_tab mm_ftT 1 3 = some 0 := ⟨rfl, rfl⟩
theorem fd_5_9 : mm_tab mm_fldT 5 9 = some (5, 0, 0) ∧ mm_tab mm_ftT 5 0 = some 6 := ⟨rfl, rfl⟩
theorem fd_5_15 : mm_tab mm_fldT 5 15 = some (5, 1, 0) ∧ mm_tab mm_ftT 5 1 = some 0 := ⟨rfl, rfl⟩
theorem fd_5_19 : mm_tab mm_fldT 5 19 = some (5, 2, 0) ∧ mm_tab mm_ftT 5 2 = some 6 := ⟨rfl, rfl⟩
theorem fd_5_22 : mm_tab mm_fldT 5 22 = some (5, 3, 0) ∧ mm_tab mm_ftT 5 3 = some 6 := ⟨rfl, rfl⟩
theorem fd_5_29 : mm_tab mm_fldT 5 29 = some (8, 2, 1) ∧ mm_tab mm_ftT 8 2 = some 0 := ⟨rfl, rfl⟩
theorem fd_5_34 : mm_tab mm_fldT 5 34 = some (8, 3, 1) ∧ mm_tab mm_ftT 8 3 = some 0 := ⟨rfl, rfl⟩
theorem fd_6_12 : mm_tab mm_fldT 6 12 = some (6, 0, 0) ∧ mm_tab mm_ftT 6 0 = some 6 := ⟨rfl, rfl⟩
theorem fd_6_18 : mm_tab mm_fldT 6 18 = some (6, 1, 0) ∧ mm_tab mm_ftT 6 1 = some 6 := ⟨rfl, rfl⟩
theorem fd_6_22 : mm_tab mm_fldT 6 22 = some (6, 2, 0) ∧ mm_tab mm_ftT 6 2 = some 0 := ⟨rfl, rfl⟩
theorem fd_6_26 : mm_tab mm_fldT 6 26 = some (6, 3, 0) ∧ mm_tab mm_ftT 6 3 = some 0 := ⟨rfl, rfl⟩
theorem fd_6_29 : mm_tab mm_fldT 6 29 = some (6, 4, 0) ∧ mm_tab mm_ftT 6 4 = some 6 := ⟨rfl, rfl⟩
theorem fd_6_32 : mm_tab mm_fldT 6 32 = some (6, 5, 0) ∧ mm_tab mm_ftT 6 5 = some 6 := ⟨rfl, rfl⟩
theorem fd_6_35 : mm_tab mm_fldT 6 35 = some (6, 6, 0) ∧ mm_tab mm_ftT 6 6 = some 6 := ⟨rfl, rfl⟩
theorem fd_6_38 : mm_tab mm_fldT 6 38 = some (6, 7, 0) ∧ mm_tab mm_ftT 6 7 = some 0 := ⟨rfl, rfl⟩
theorem fd_6_41 : mm_tab mm_fldT 6 41 = some (6, 8, 0) ∧ mm_tab mm_ftT 6 8 = some 6 := ⟨rfl, rfl⟩
theorem fd_7_9 : mm_tab mm_fldT 7 9 = some (7, 0, 0) ∧ mm_tab mm_ftT 7 0 = some 6 := ⟨rfl, rfl⟩
theorem fd_7_15 : mm_tab mm_fldT 7 15 = some (7, 1, 0) ∧ mm_tab mm_ftT 7 1 = some 0 := ⟨rfl, rfl⟩
theorem fd_7_19 : mm_tab mm_fldT 7 19 = some (7, 2, 0) ∧ mm_tab mm_ftT 7 2 = some 0 := ⟨rfl, rfl⟩
theorem fd_7_22 : mm_tab mm_fldT 7 22 = some (7, 3, 0) ∧ mm_tab mm_ftT 7 3 = some 0 := ⟨rfl, rfl⟩
theorem fd_7_25 : mm_tab mm_fldT 7 25 = some (7, 4, 0) ∧ mm_tab mm_ftT 7 4 = some 0 := ⟨rfl, rfl⟩
theorem fd_7_28 : mm_tab mm_fldT 7 28 = some (7, 5, 0) ∧ mm_tab mm_ftT 7 5 = some 0 := ⟨rfl, rfl⟩
theorem fd_7_31 : mm_tab mm_fldT 7 31 = some (7, 6, 0) ∧ mm_tab mm_ftT 7 6 = some 0 := ⟨rfl, rfl⟩
theorem fd_8_7 : mm_tab mm_fldT 8 7 = some (8, 0, 0) ∧ mm_tab mm_ftT 8 0 = some 0 := ⟨rfl, rfl⟩
theorem fd_8_13 : mm_tab mm_fldT 8 13 = some (8, 1, 0) ∧ mm_tab mm_ftT 8 1 = some 0 := ⟨rfl, rfl⟩
theorem fd_8_16 : mm_tab mm_fldT 8 16 = some (8, 2, 0) ∧ mm_tab mm_ftT 8 2 = some 0 := ⟨rfl, rfl⟩
theorem fd_8_19 : mm_tab mm_fldT 8 19 = some (8, 3, 0) ∧ mm_tab mm_ftT 8 3 = some 0 := ⟨rfl, rfl⟩
theorem fd_8_22 : mm_tab mm_fldT 8 22 = some (8, 4, 0) ∧ mm_tab mm_ftT 8 4 = some 1 := ⟨rfl, rfl⟩
theorem fd_9_11 : mm_tab mm_fldT 9 11 = some (9, 0, 0) ∧ mm_tab mm_ftT 9 0 = some 6 := ⟨rfl, rfl⟩
theorem fd_9_18 : mm_tab mm_fldT 9 18 = some (9, 1, 0) ∧ mm_tab mm_ftT 9 1 = some 6 := ⟨rfl, rfl⟩
theorem fd_9_22 : mm_tab mm_fldT 9 22 = some (9, 2, 0) ∧ mm_tab mm_ftT 9 2 = some 0 := ⟨rfl, rfl⟩
theorem fd_9_26 : mm_tab mm_fldT 9 26 = some (9, 3, 0) ∧ mm_tab mm_ftT 9 3 = some 0 := ⟨rfl, rfl⟩
theorem fd_9_33 : mm_tab mm_fldT 9 33 = some (8, 0, 1) ∧ mm_tab mm_ftT 8 0 = some 0 := ⟨rfl, rfl⟩
theorem fd_9_36 : mm_tab mm_fldT 9 36 = some (8, 1, 1) ∧ mm_tab mm_ftT 8 1 = some 0 := ⟨rfl, rfl⟩
theorem fd_9_39 : mm_tab mm_fldT 9 39 = some (8, 2, 1) ∧ mm_tab mm_ftT 8 2 = some 0 := ⟨rfl, rfl⟩
theorem fd_9_42 : mm_tab mm_fldT 9 42 = some (8, 3, 1) ∧ mm_tab mm_ftT 8 3 = some 0 := ⟨rfl, rfl⟩
theorem fd_9_45 : mm_tab mm_fldT 9 45 = some (8, 4, 1) ∧ mm_tab mm_ftT 8 4 = some 1 := ⟨rfl, rfl⟩
theorem fd_10_11 : mm_tab mm_fldT 10 11 = some (10, 0, 0) ∧ mm_tab mm_ftT 10 0 = some 6 := ⟨rfl, rfl⟩
theorem fd_10_20 : mm_tab mm_fldT 10 20 = some (10, 1, 0) ∧ mm_tab mm_ftT 10 1 = some 6 := ⟨rfl, rfl⟩
theorem fd_10_24 : mm_tab mm_fldT 10 24 = some (10, 2, 0) ∧ mm_tab mm_ftT 10 2 = some 6 := ⟨rfl, rfl⟩
theorem fd_10_28 : mm_tab mm_fldT 10 28 = some (10, 3, 0) ∧ mm_tab mm_ftT 10 3 = some 0 := ⟨rfl, rfl⟩
theorem fd_10_32 : mm_tab mm_fldT 10 32 = some (10, 4, 0) ∧ mm_tab mm_ftT 10 4 = some 6 := ⟨rfl, rfl⟩
theorem fd_10_35 : mm_tab mm_fldT 10 35 = some (10, 5, 0) ∧ mm_tab mm_ftT 10 5 = some 6 := ⟨rfl, rfl⟩
theorem fd_10_38 : mm_tab mm_fldT 10 38 = some (10, 6, 0) ∧ mm_tab mm_ftT 10 6 = some 6 := ⟨rfl, rfl⟩
theorem fd_10_41 : mm_tab mm_fldT 10 41 = some (10, 7, 0) ∧ mm_tab mm_ftT 10 7 = some 6 := ⟨rfl, rfl⟩
theorem fd_10_44 : mm_tab mm_fldT 10 44 = some (10, 8, 0) ∧ mm_tab mm_ftT 10 8 = some 0 := ⟨rfl, rfl⟩
theorem fd_10_47 : mm_tab mm_fldT 10 47 = some (10, 9, 0) ∧ mm_tab mm_ftT 10 9 = some 0 := ⟨rfl, rfl⟩
theorem fd_11_9 : mm_tab mm_fldT 11 9 = some (11, 0, 0) ∧ mm_tab mm_ftT 11 0 = some 0 := ⟨rfl, rfl⟩
theorem fd_11_16 : mm_tab mm_fldT 11 16 = some (11, 1, 0) ∧ mm_tab mm_ftT 11 1 = some 2 := ⟨rfl, rfl⟩
theorem fd_11_20 : mm_tab mm_fldT 11 20 = some (11, 2, 0) ∧ mm_tab mm_ftT 11 2 = some 2 := ⟨rfl, rfl⟩
theorem fd_11_26 : mm_tab mm_fldT 11 26 = some (11, 3, 0) ∧ mm_tab mm_ftT 11 3 = some 6 := ⟨rfl, rfl⟩
theorem fd_11_30 : mm_tab mm_fldT 11 30 = some (11, 4, 0) ∧ mm_tab mm_ftT 11 4 = some 6 := ⟨rfl, rfl⟩
theorem fd_11_37 : mm_tab mm_fldT 11 37 = some (11, 5, 0) ∧ mm_tab mm_ftT 11 5 = some 6 := ⟨rfl, rfl⟩
theorem fd_11_41 : mm_tab mm_fldT 11 41 = some (11, 6, 0) ∧ mm_tab mm_ftT 11 6 = some 6 := ⟨rfl, rfl⟩
theorem fd_11_44 : mm_tab mm_fldT 11 44 = some (11, 7, 0) ∧ mm_tab mm_ftT 11 7 = some 1 := ⟨rfl, rfl⟩
theorem fd_11_51 : mm_tab mm_fldT 11 51 = some (11, 8, 0) ∧ mm_tab mm_ftT 11 8 = some 6 := ⟨rfl, rfl⟩
theorem fd_11_58 : mm_tab mm_fldT 11 58 = some (11, 9, 0) ∧ mm_tab mm_ftT 11 9 = some 6 := ⟨rfl, rfl⟩
theorem fd_11_65 : mm_tab mm_fldT 11 65 = some (11, 10, 0) ∧ mm_tab mm_ftT 11 10 = some 6 := ⟨rfl, rfl⟩
theorem fd_11_69 : mm_tab mm_fldT 11 69 = some (11, 11, 0) ∧ mm_tab mm_ftT 11 11 = some 6 := ⟨rfl, rfl⟩
theorem fd_11_75 : mm_tab mm_fldT 11 75 = some (11, 12, 0) ∧ mm_tab mm_ftT 11 12 = some 6 := ⟨rfl, rfl⟩
theorem fd_11_84 : mm_tab mm_fldT 11 84 = some (11, 13, 0) ∧ mm_tab mm_ftT 11 13 = some 6 := ⟨rfl, rfl⟩
theorem fd_11_88 : mm_tab mm_fldT 11 88 = some (11, 14, 0) ∧ mm_tab mm_ftT 11 14 = some 6 := ⟨rfl, rfl⟩
theorem fd_11_91 : mm_tab mm_fldT 11 91 = some (11, 15, 0) ∧ mm_tab mm_ftT 11 15 = some 0 := ⟨rfl, rfl⟩
theorem fd_11_94 : mm_tab mm_fldT 11 94 = some (4, 0, 1) ∧ mm_tab mm_ftT 4 0 = some 6 := ⟨rfl, rfl⟩
theorem fd_11_98 : mm_tab mm_fldT 11 98 = some (7, 1, 1) ∧ mm_tab mm_ftT 7 1 = some 0 := ⟨rfl, rfl⟩
theorem fd_11_135 : mm_tab mm_fldT 11 135 = some (1, 0, 1) ∧ mm_tab mm_ftT 1 0 = some 6 := ⟨rfl, rfl⟩
theorem fd_11_145 : mm_tab mm_fldT 11 145 = some (1, 1, 1) ∧ mm_tab mm_ftT 1 1 = some 6 := ⟨rfl, rfl⟩
theorem fd_11_158 : mm_tab mm_fldT 11 158 = some (6, 0, 1) ∧ mm_tab mm_ftT 6 0 = some 6 := ⟨rfl, rfl⟩
theorem fd_11_161 : mm_tab mm_fldT 11 161 = some (9, 3, 1) ∧ mm_tab mm_ftT 9 3 = some 0 := ⟨rfl, rfl⟩
theorem fd_11_189 : mm_tab mm_fldT 11 189 = some (9, 2, 1) ∧ mm_tab mm_ftT 9 2 = some 0 := ⟨rfl, rfl⟩
theorem fd_11_196 : mm_tab mm_fldT 11 196 = some (8, 4, 1) ∧ mm_tab mm_ftT 8 4 = some 1 := ⟨rfl, rfl⟩
theorem fd_11_222 : mm_tab mm_fldT 11 222 = some (8, 0, 1) ∧ mm_tab mm_ftT 8 0 = some 0 := ⟨rfl, rfl⟩
theorem fd_11_225 : mm_tab mm_fldT 11 225 = some (8, 1, 1) ∧ mm_tab mm_ftT 8 1 = some 0 := ⟨rfl, rfl⟩
theorem fd_11_234 : mm_tab mm_fldT 11 234 = some (8, 2, 1) ∧ mm_tab mm_ftT 8 2 = some 0 := ⟨rfl, rfl⟩
theorem fd_11_237 : mm_tab mm_fldT 11 237 = some (8, 3, 1) ∧ mm_tab mm_ftT 8 3 = some 0 := ⟨rfl, rfl⟩
theorem mt_0_17 : mm_tab mm_mthT 0 17 = some (0, 177, 3, 1, 11) := rfl
theorem mt_0_23 : mm_tab mm_mthT 0 23 = some (0, 176, 2, 1, 11) := rfl
theorem mt_0_27 : mm_tab mm_mthT 0 27 = some (1, 8, 3, 0, 0) := rfl
theorem mt_0_31 : mm_tab mm_mthT 0 31 = some (5, 0, 2, 0, 0) := rfl
theorem mt_0_37 : mm_tab mm_mthT 0 37 = some (4, 0, 2, 0, 0) := rfl
theorem mt_0_40 : mm_tab mm_mthT 0 40 = some (1, 11, 1, 0, 0) := rfl
theorem mt_1_40 : mm_tab mm_mthT 1 40 = some (1, 105, 0, 0, 10) := rfl
theorem mt_1_46 : mm_tab mm_mthT 1 46 = some (1, 58, 0, 0, 5) := rfl
theorem mt_1_49 : mm_tab mm_mthT 1 49 = some (0, 177, 3, 1, 11) := rfl
theorem mt_1_53 : mm_tab mm_mthT 1 53 = some (0, 176, 2, 1, 11) := rfl
theorem mt_1_62 : mm_tab mm_mthT 1 62 = some (1, 107, 1, 0, 10) := rfl
theorem mt_1_66 : mm_tab mm_mthT 1 66 = some (1, 3, 0, 0, 0) := rfl
theorem mt_1_75 : mm_tab mm_mthT 1 75 = some (5, 0, 2, 0, 0) := rfl
theorem mt_1_84 : mm_tab mm_mthT 1 84 = some (1, 16, 1, 0, 1) := rfl
theorem mt_1_88 : mm_tab mm_mthT 1 88 = some (1, 1, 0, 0, 0) := rfl
theorem mt_1_91 : mm_tab mm_mthT 1 91 = some (1, 4, 1, 0, 0) := rfl
theorem mt_1_95 : mm_tab mm_mthT 1 95 = some (1, 2, 1, 0, 0) := rfl
theorem mt_1_99 : mm_tab mm_mthT 1 99 = some (1, 99, 1, 0, 9) := rfl
theorem mt_1_103 : mm_tab mm_mthT 1 103 = some (1, 17, 1, 0, 1) := rfl
theorem mt_1_107 : mm_tab mm_mthT 1 107 = some (1, 18, 1, 0, 1) := rfl
theorem mt_1_113 : mm_tab mm_mthT 1 113 = some (1, 15, 1, 0, 1) := rfl
theorem mt_1_116 : mm_tab mm_mthT 1 116 = some (1, 23, 3, 0, 1) := rfl
theorem mt_1_123 : mm_tab mm_mthT 1 123 = some (1, 59, 0, 0, 5) := rfl
theorem mt_1_127 : mm_tab mm_mthT 1 127 = some (1, 61, 3, 0, 5) := rfl
theorem mt_1_130 : mm_tab mm_mthT 1 130 = some (1, 110, 1, 0, 10) := rfl
theorem mt_1_133 : mm_tab mm_mthT 1 133 = some (1, 111, 2, 0, 10) := rfl
theorem mt_1_136 : mm_tab mm_mthT 1 136 = some (1, 62, 3, 0, 5) := rfl
theorem mt_1_140 : mm_tab mm_mthT 1 140 = some (1, 63, 0, 0, 5) := rfl
theorem mt_1_143 : mm_tab mm_mthT 1 143 = some (4, 0, 2, 0, 0) := rfl
theorem mt_2_15 : mm_tab mm_mthT 2 15 = some (1, 3, 0, 0, 0) := rfl
theorem mt_2_21 : mm_tab mm_mthT 2 21 = some (0, 177, 3, 1, 11) := rfl
theorem mt_2_25 : mm_tab mm_mthT 2 25 = some (0, 176, 2, 1, 11) := rfl
theorem mt_2_29 : mm_tab mm_mthT 2 29 = some (1, 4, 1, 0, 0) := rfl
theorem mt_2_33 : mm_tab mm_mthT 2 33 = some (5, 0, 2, 0, 0) := rfl
theorem mt_2_39 : mm_tab mm_mthT 2 39 = some (4, 0, 2, 0, 0) := rfl
theorem mt_3_25 : mm_tab mm_mthT 3 25 = some (0, 177, 3, 1, 11) := rfl
theorem mt_3_29 : mm_tab mm_mthT 3 29 = some (0, 176, 2, 1, 11) := rfl
theorem mt_3_33 : mm_tab mm_mthT 3 33 = some (1, 32, 2, 0, 3) := rfl
theorem mt_3_37 : mm_tab mm_mthT 3 37 = some (1, 34, 2, 0, 3) := rfl
theorem mt_3_41 : mm_tab mm_mthT 3 41 = some (0, 179, 1, 1, 11) := rfl
theorem mt_3_45 : mm_tab mm_mthT 3 45 = some (0, 292, 1, 0, 14) := rfl
theorem mt_3_51 : mm_tab mm_mthT 3 51 = some (1, 33, 3, 0, 3) := rfl
theorem mt_3_55 : mm_tab mm_mthT 3 55 = some (5, 0, 2, 0, 0) := rfl
theorem mt_4_45 : mm_tab mm_mthT 4 45 = some (1, 80, 1, 0, 7) := rfl
theorem mt_4_48 : mm_tab mm_mthT 4 48 = some (1, 88, 0, 0, 7) := rfl
theorem mt_4_52 : mm_tab mm_mthT 4 52 = some (1, 89, 0, 0, 7) := rfl
theorem mt_4_57 : mm_tab mm_mthT 4 57 = some (1, 92, 1, 0, 7) := rfl
theorem mt_4_67 : mm_tab mm_mthT 4 67 = some (1, 42, 1, 0, 4) := rfl
theorem mt_4_75 : mm_tab mm_mthT 4 75 = some (1, 44, 2, 0, 4) := rfl
theorem mt_4_81 : mm_tab mm_mthT 4 81 = some (1, 45, 1, 0, 4) := rfl
theorem mt_4_91 : mm_tab mm_mthT 4 91 = some (1, 46, 1, 0, 4) := rfl
theorem mt_4_95 : mm_tab mm_mthT 4 95 = some (1, 40, 1, 0, 4) := rfl
theorem mt_4_99 : mm_tab mm_mthT 4 99 = some (1, 81, 0, 0, 7) := rfl
theorem mt_4_102 : mm_tab mm_mthT 4 102 = some (1, 106, 0, 0, 10) := rfl
theorem mt_4_107 : mm_tab mm_mthT 4 107 = some (1, 90, 0, 0, 7) := rfl
theorem mt_4_110 : mm_tab mm_mthT 4 110 = some (1, 107, 1, 0, 10) := rfl
theorem mt_4_114 : mm_tab mm_mthT 4 114 = some (1, 93, 1, 0, 7) := rfl
theorem mt_4_118 : mm_tab mm_mthT 4 118 = some (1, 108, 1, 0, 10) := rfl
theorem mt_4_122 : mm_tab mm_mthT 4 122 = some (1, 43, 2, 0, 4) := rfl
theorem mt_4_126 : mm_tab mm_mthT 4 126 = some (1, 109, 1, 0, 10) := rfl
theorem mt_4_129 : mm_tab mm_mthT 4 129 = some (1, 91, 0, 0, 7) := rfl
theorem mt_4_141 : mm_tab mm_mthT 4 141 = some (1, 100, 4, 0, 9) := rfl
theorem mt_4_148 : mm_tab mm_mthT 4 148 = some (1, 14, 1, 0, 1) := rfl
theorem mt_4_151 : mm_tab mm_mthT 4 151 = some (1, 59, 0, 0, 5) := rfl
theorem mt_4_157 : mm_tab mm_mthT 4 157 = some (1, 49, 1, 0, 4) := rfl
theorem mt_4_161 : mm_tab mm_mthT 4 161 = some (1, 47, 0, 0, 4) := rfl
theorem mt_4_164 : mm_tab mm_mthT 4 164 = some (1, 48, 1, 0, 4) := rfl
theorem mt_4_167 : mm_tab mm_mthT 4 167 = some (1, 50, 1, 0, 4) := rfl
theorem mt_4_170 : mm_tab mm_mthT 4 170 = some (1, 53, 2, 0, 4) := rfl
theorem mt_4_174 : mm_tab mm_mthT 4 174 = some (1, 51, 1, 0, 4) := rfl
theorem mt_4_179 : mm_tab mm_mthT 4 179 = some (1, 54, 0, 0, 4) := rfl
theorem mt_4_182 : mm_tab mm_mthT 4 182 = some (1, 60, 1, 0, 5) := rfl
theorem mt_4_185 : mm_tab mm_mthT 4 185 = some (1, 55, 0, 0, 4) := rfl
theorem mt_4_188 : mm_tab mm_mthT 4 188 = some (0, 56, 1, 0, 4) := rfl
theorem mt_4_192 : mm_tab mm_mthT 4 192 = some (1, 52, 0, 0, 4) := rfl
theorem mt_4_195 : mm_tab mm_mthT 4 195 = some (0, 177, 3, 1, 11) := rfl
theorem mt_4_199 : mm_tab mm_mthT 4 199 = some (0, 176, 2, 1, 11) := rfl
theorem mt_5_25 : mm_tab mm_mthT 5 25 = some (0, 177, 3, 1, 11) := rfl
theorem mt_5_37 : mm_tab mm_mthT 5 37 = some (0, 176, 2, 1, 11) := rfl
theorem mt_5_41 : mm_tab mm_mthT 5 41 = some (0, 64, 3, 0, 5) := rfl
theorem mt_6_44 : mm_tab mm_mthT 6 44 = some (1, 101, 1, 0, 9) := rfl
theorem mt_6_48 : mm_tab mm_mthT 6 48 = some (0, 178, 2, 1, 11) := rfl
theorem mt_6_52 : mm_tab mm_mthT 6 52 = some (0, 176, 2, 1, 11) := rfl
theorem mt_6_56 : mm_tab mm_mthT 6 56 = some (0, 177, 3, 1, 11) := rfl
theorem mt_6_60 : mm_tab mm_mthT 6 60 = some (1, 102, 2, 0, 9) := rfl
theorem mt_6_64 : mm_tab mm_mthT 6 64 = some (1, 103, 2, 0, 9) := rfl
theorem mt_6_67 : mm_tab mm_mthT 6 67 = some (4, 0, 2, 0, 0) := rfl
theorem mt_7_34 : mm_tab mm_mthT 7 34 = some (1, 81, 0, 0, 7) := rfl
theorem mt_7_37 : mm_tab mm_mthT 7 37 = some (1, 84, 1, 0, 7) := rfl
theorem mt_7_41 : mm_tab mm_mthT 7 41 = some (0, 85, 1, 0, 7) := rfl
theorem mt_7_45 : mm_tab mm_mthT 7 45 = some (1, 82, 0, 0, 7) := rfl
theorem mt_7_48 : mm_tab mm_mthT 7 48 = some (0, 86, 1, 0, 7) := rfl
theorem mt_7_51 : mm_tab mm_mthT 7 51 = some (1, 83, 0, 0, 7) := rfl
theorem mt_7_54 : mm_tab mm_mthT 7 54 = some (0, 87, 1, 0, 7) := rfl
theorem mt_7_57 : mm_tab mm_mthT 7 57 = some (1, 90, 0, 0, 7) := rfl
theorem mt_7_61 : mm_tab mm_mthT 7 61 = some (1, 293, 0, 0, 107) := rfl
theorem mt_7_65 : mm_tab mm_mthT 7 65 = some (1, 294, 1, 0, 107) := rfl
theorem mt_7_69 : mm_tab mm_mthT 7 69 = some (1, 1, 0, 0, 0) := rfl
theorem mt_7_74 : mm_tab mm_mthT 7 74 = some (1, 2, 1, 0, 0) := rfl
theorem mt_9_29 : mm_tab mm_mthT 9 29 = some (1, 99, 1, 0, 9) := rfl
theorem mt_9_49 : mm_tab mm_mthT 9 49 = some (1, 95, 1, 0, 8) := rfl
theorem mt_9_53 : mm_tab mm_mthT 9 53 = some (0, 177, 3, 1, 11) := rfl
theorem mt_9_57 : mm_tab mm_mthT 9 57 = some (0, 176, 2, 1, 11) := rfl
theorem mt_10_50 : mm_tab mm_mthT 10 50 = some (1, 107, 1, 0, 10) := rfl
theorem mt_10_54 : mm_tab mm_mthT 10 54 = some (1, 6, 1, 0, 0) := rfl
theorem mt_10_58 : mm_tab mm_mthT 10 58 = some (0, 177, 3, 1, 11) := rfl
theorem mt_10_62 : mm_tab mm_mthT 10 62 = some (0, 176, 2, 1, 11) := rfl
theorem mt_10_66 : mm_tab mm_mthT 10 66 = some (1, 7, 1, 0, 0) := rfl
theorem mt_10_69 : mm_tab mm_mthT 10 69 = some (1, 10, 1, 0, 0) := rfl
theorem mt_10_72 : mm_tab mm_mthT 10 72 = some (1, 9, 1, 0, 0) := rfl
theorem mt_10_76 : mm_tab mm_mthT 10 76 = some (1, 5, 0, 0, 0) := rfl
theorem mt_10_80 : mm_tab mm_mthT 10 80 = some (1, 4, 1, 0, 0) := rfl
theorem mt_10_84 : mm_tab mm_mthT 10 84 = some (1, 119, 3, 0, 10) := rfl
theorem mt_10_88 : mm_tab mm_mthT 10 88 = some (1, 113, 1, 0, 10) := rfl
theorem mt_10_91 : mm_tab mm_mthT 10 91 = some (1, 3, 0, 0, 0) := rfl
theorem mt_10_94 : mm_tab mm_mthT 10 94 = some (1, 111, 2, 0, 10) := rfl
theorem mt_10_98 : mm_tab mm_mthT 10 98 = some (1, 120, 2, 0, 10) := rfl
theorem mt_10_102 : mm_tab mm_mthT 10 102 = some (4, 0, 2, 0, 0) := rfl
theorem mt_10_107 : mm_tab mm_mthT 10 107 = some (1, 121, 5, 0, 10) := rfl
theorem mt_11_103 : mm_tab mm_mthT 11 103 = some (1, 79, 1, 0, 7) := rfl
theorem mt_11_106 : mm_tab mm_mthT 11 106 = some (0, 175, 1, 0, 11) := rfl
theorem mt_11_110 : mm_tab mm_mthT 11 110 = some (1, 13, 0, 0, 1) := rfl
theorem mt_11_113 : mm_tab mm_mthT 11 113 = some (1, 38, 1, 0, 4) := rfl
theorem mt_11_116 : mm_tab mm_mthT 11 116 = some (1, 39, 0, 0, 4) := rfl
theorem mt_11_120 : mm_tab mm_mthT 11 120 = some (1, 41, 1, 0, 4) := rfl
theorem mt_11_124 : mm_tab mm_mthT 11 124 = some (1, 36, 0, 0, 4) := rfl
theorem mt_11_128 : mm_tab mm_mthT 11 128 = some (1, 37, 0, 0, 4) := rfl
theorem mt_11_131 : mm_tab mm_mthT 11 131 = some (1, 68, 1, 0, 6) := rfl
theorem mt_11_139 : mm_tab mm_mthT 11 139 = some (1, 118, 1, 0, 10) := rfl
theorem mt_11_148 : mm_tab mm_mthT 11 148 = some (1, 67, 1, 0, 6) := rfl
theorem mt_11_152 : mm_tab mm_mthT 11 152 = some (1, 106, 0, 0, 10) := rfl
theorem mt_11_155 : mm_tab mm_mthT 11 155 = some (1, 127, 0, 0, 11) := rfl
theorem mt_11_164 : mm_tab mm_mthT 11 164 = some (1, 15, 1, 0, 1) := rfl
theorem mt_11_167 : mm_tab mm_mthT 11 167 = some (1, 20, 1, 0, 1) := rfl
theorem mt_11_171 : mm_tab mm_mthT 11 171 = some (1, 128, 0, 0, 11) := rfl
theorem mt_11_174 : mm_tab mm_mthT 11 174 = some (1, 21, 1, 0, 1) := rfl
theorem mt_11_177 : mm_tab mm_mthT 11 177 = some (1, 70, 0, 0, 6) := rfl
theorem mt_11_180 : mm_tab mm_mthT 11 180 = some (1, 73, 0, 0, 6) := rfl
theorem mt_11_183 : mm_tab mm_mthT 11 183 = some (0, 174, 1, 0, 11) := rfl
theorem mt_11_186 : mm_tab mm_mthT 11 186 = some (1, 69, 1, 0, 6) := rfl
theorem mt_11_192 : mm_tab mm_mthT 11 192 = some (1, 99, 1, 0, 9) := rfl
theorem mt_11_199 : mm_tab mm_mthT 11 199 = some (1, 171, 1, 0, 11) := rfl
theorem mt_11_203 : mm_tab mm_mthT 11 203 = some (1, 107, 1, 0, 10) := rfl
theorem mt_11_207 : mm_tab mm_mthT 11 207 = some (1, 3, 0, 0, 0) := rfl
theorem mt_11_210 : mm_tab mm_mthT 11 210 = some (1, 110, 1, 0, 10) := rfl
theorem mt_11_213 : mm_tab mm_mthT 11 213 = some (1, 116, 1, 0, 10) := rfl
theorem mt_11_216 : mm_tab mm_mthT 11 216 = some (1, 117, 1, 0, 10) := rfl
theorem mt_11_219 : mm_tab mm_mthT 11 219 = some (1, 130, 1, 0, 11) := rfl
theorem mt_11_228 : mm_tab mm_mthT 11 228 = some (1, 4, 1, 0, 0) := rfl
theorem mt_11_231 : mm_tab mm_mthT 11 231 = some (1, 172, 1, 0, 11) := rfl
theorem mt_11_240 : mm_tab mm_mthT 11 240 = some (1, 16, 1, 0, 1) := rfl
theorem mt_11_244 : mm_tab mm_mthT 11 244 = some (1, 18, 1, 0, 1) := rfl
theorem mt_11_247 : mm_tab mm_mthT 11 247 = some (1, 153, 0, 0, 11) := rfl
theorem mt_11_250 : mm_tab mm_mthT 11 250 = some (1, 30, 1, 0, 3) := rfl
theorem mt_11_253 : mm_tab mm_mthT 11 253 = some (1, 71, 0, 0, 6) := rfl
theorem mt_11_256 : mm_tab mm_mthT 11 256 = some (1, 22, 1, 0, 1) := rfl
theorem mt_11_259 : mm_tab mm_mthT 11 259 = some (1, 17, 1, 0, 1) := rfl
theorem mt_11_263 : mm_tab mm_mthT 11 263 = some (4, 0, 2, 0, 0) := rfl
theorem mt_11_269 : mm_tab mm_mthT 11 269 = some (1, 96, 0, 0, 8) := rfl
theorem mt_11_272 : mm_tab mm_mthT 11 272 = some (1, 97, 2, 0, 8) := rfl
theorem mt_11_276 : mm_tab mm_mthT 11 276 = some (1, 72, 0, 0, 6) := rfl
theorem mt_11_279 : mm_tab mm_mthT 11 279 = some (0, 173, 1, 0, 11) := rfl
theorem mt_11_282 : mm_tab mm_mthT 11 282 = some (1, 147, 3, 0, 11) := rfl
theorem mt_11_286 : mm_tab mm_mthT 11 286 = some (1, 19, 2, 0, 1) := rfl
theorem mt_11_290 : mm_tab mm_mthT 11 290 = some (1, 140, 0, 0, 11) := rfl
theorem mt_11_293 : mm_tab mm_mthT 11 293 = some (1, 25, 2, 0, 2) := rfl
theorem mt_11_297 : mm_tab mm_mthT 11 297 = some (1, 95, 1, 0, 8) := rfl
theorem mt_11_301 : mm_tab mm_mthT 11 301 = some (1, 146, 2, 0, 11) := rfl
theorem mt_11_305 : mm_tab mm_mthT 11 305 = some (1, 7, 1, 0, 0) := rfl
theorem mt_11_309 : mm_tab mm_mthT 11 309 = some (1, 6, 1, 0, 0) := rfl
theorem mt_11_312 : mm_tab mm_mthT 11 312 = some (1, 23, 3, 0, 1) := rfl
theorem mt_11_316 : mm_tab mm_mthT 11 316 = some (1, 111, 2, 0, 10) := rfl
theorem mt_11_319 : mm_tab mm_mthT 11 319 = some (1, 26, 2, 0, 2) := rfl
theorem mt_11_322 : mm_tab mm_mthT 11 322 = some (1, 112, 0, 0, 10) := rfl
theorem mt_11_325 : mm_tab mm_mthT 11 325 = some (1, 113, 1, 0, 10) := rfl
theorem mt_11_328 : mm_tab mm_mthT 11 328 = some (1, 114, 0, 0, 10) := rfl
theorem mt_11_331 : mm_tab mm_mthT 11 331 = some (1, 115, 1, 0, 10) := rfl
theorem mt_11_334 : mm_tab mm_mthT 11 334 = some (1, 29, 0, 0, 3) := rfl
theorem mt_11_337 : mm_tab mm_mthT 11 337 = some (1, 28, 3, 0, 3) := rfl
theorem mt_11_340 : mm_tab mm_mthT 11 340 = some (1, 31, 1, 0, 3) := rfl
theorem mt_11_343 : mm_tab mm_mthT 11 343 = some (1, 74, 3, 0, 6) := rfl
theorem mt_11_346 : mm_tab mm_mthT 11 346 = some (1, 159, 0, 0, 11) := rfl
theorem mt_11_349 : mm_tab mm_mthT 11 349 = some (1, 158, 0, 0, 11) := rfl
theorem mt_11_352 : mm_tab mm_mthT 11 352 = some (1, 160, 2, 0, 11) := rfl
theorem mt_11_355 : mm_tab mm_mthT 11 355 = some (0, 179, 1, 0, 11) := rfl
theorem mt_11_358 : mm_tab mm_mthT 11 358 = some (0, 292, 1, 0, 14) := rfl
theorem mt_11_363 : mm_tab mm_mthT 11 363 = some (1, 162, 3, 0, 11) := rfl
theorem mt_11_367 : mm_tab mm_mthT 11 367 = some (1, 75, 0, 0, 6) := rfl
theorem mt_11_370 : mm_tab mm_mthT 11 370 = some (1, 161, 2, 0, 11) := rfl
theorem mt_11_374 : mm_tab mm_mthT 11 374 = some (1, 76, 1, 0, 6) := rfl
theorem mt_11_377 : mm_tab mm_mthT 11 377 = some (1, 77, 3, 0, 6) := rfl
theorem mt_11_381 : mm_tab mm_mthT 11 381 = some (1, 165, 2, 0, 11) := rfl
theorem mt_11_384 : mm_tab mm_mthT 11 384 = some (1, 101, 1, 0, 9) := rfl
theorem mt_11_387 : mm_tab mm_mthT 11 387 = some (1, 167, 0, 0, 11) := rfl
theorem mt_11_390 : mm_tab mm_mthT 11 390 = some (1, 168, 1, 0, 11) := rfl
theorem mt_11_394 : mm_tab mm_mthT 11 394 = some (1, 66, 1, 0, 6) := rfl
theorem mt_16_335 : mm_tab mm_mthT 16 335 = some (1, 295, 0, 0, 107) := rfl
theorem mt_16_492 : mm_tab mm_mthT 16 492 = some (1, 296, 0, 0, 107) := rfl
theorem mt_16_495 : mm_tab mm_mthT 16 495 = some (0, 298, 2, 0, 17) := rfl
theorem mt_16_1059 : mm_tab mm_mthT 16 1059 = some (0, 299, 3, 0, 18) := rfl
theorem mt_17_9 : mm_tab mm_mthT 17 9 = some (0, 297, 2, 0, 107) := rfl
theorem sc_0 (L : Nat) : (mm_SH L 0).1 = 11 := rfl
theorem sc_81 (L : Nat) : (mm_SH L 81).1 = 4 := rfl
theorem sc_82 (L : Nat) : (mm_SH L 82).1 = 7 := rfl
theorem sc_86 (L : Nat) : (mm_SH L 86).1 = 6 := rfl
theorem sc_87 (L : Nat) : (mm_SH L 87).1 = 9 := rfl
theorem sc_101 (L : Nat) : (mm_SH L 101).1 = 6 := rfl
theorem sc_116 (L : Nat) : (mm_SH L 116).1 = 2 := rfl
theorem sc_118 (L : Nat) : (mm_SH L 118).1 = 3 := rfl
theorem sc_122 (L : Nat) : (mm_SH L 122).1 = 8 := rfl
theorem sc_123 (L : Nat) : (mm_SH L 123).1 = 8 := rfl
theorem sc_124 (L : Nat) : (mm_SH L 124).1 = 9 := rfl
theorem sc_133 (L : Nat) : (mm_SH L 133).1 = 0 := rfl
theorem sh_83 (L : Nat) : mm_SH L 83 = (101, 700) := rfl
theorem sh_84 (L : Nat) : mm_SH L 84 = (100, 84) := rfl
theorem sh_85 (L : Nat) : mm_SH L 85 = (100, 2048) := rfl
theorem sh_117 (L : Nat) : mm_SH L 117 = (100, 17) := rfl
theorem sh_119 (L : Nat) : mm_SH L 119 = (100, 36) := rfl
theorem sh_120 (L : Nat) : mm_SH L 120 = (100, 64) := rfl
theorem sh_121 (L : Nat) : mm_SH L 121 = (100, 6) := rfl
theorem bd_0_0 : mz_bd 0 0 = ((-2147483648), 2147483647) := rfl
theorem bd_0_7 : mz_bd 0 7 = (0, 1) := rfl
theorem bd_0_15 : mz_bd 0 15 = ((-2147483648), 2147483647) := rfl
theorem bd_81_1 : mz_bd 81 1 = ((-2147483648), 2147483647) := rfl
theorem bd_81_2 : mz_bd 81 2 = ((-2147483648), 2147483647) := rfl
theorem bd_81_4 : mz_bd 81 4 = ((-2147483648), 2147483647) := rfl
theorem bd_81_5 : mz_bd 81 5 = ((-2147483648), 2147483647) := rfl
theorem bd_81_6 : mz_bd 81 6 = ((-2147483648), 2147483647) := rfl
theorem bd_81_7 : mz_bd 81 7 = (0, 1) := rfl
theorem bd_81_8 : mz_bd 81 8 = (0, 1) := rfl
theorem bd_82_1 : mz_bd 82 1 = (0, 700) := rfl
theorem bd_82_2 : mz_bd 82 2 = (0, 700) := rfl
theorem bd_82_3 : mz_bd 82 3 = (0, 700) := rfl
theorem bd_82_4 : mz_bd 82 4 = ((-2147483648), 2147483647) := rfl
theorem bd_82_5 : mz_bd 82 5 = (0, 700) := rfl
theorem bd_82_6 : mz_bd 82 6 = ((-2147483648), 2147483647) := rfl
theorem bd_87_2 : mz_bd 87 2 = (0, 6) := rfl
theorem bd_87_3 : mz_bd 87 3 = ((-2147483648), 2147483647) := rfl
theorem bd_118_3 : mz_bd 118 3 = ((-2147483648), 2147483647) := rfl
theorem bd_122_2 : mz_bd 122 2 = ((-2147483648), 2147483647) := rfl
theorem bd_122_3 : mz_bd 122 3 = ((-2147483648), 2147483647) := rfl
theorem bd_124_2 : mz_bd 124 2 = (0, 6) := rfl
theorem ba_83 (j : Nat) : mz_bd 83 j = ((-2147483648), 2147483647) := rfl
theorem ba_84 (j : Nat) : mz_bd 84 j = ((-2147483648), 2147483647) := rfl
theorem ba_85 (j : Nat) : mz_bd 85 j = ((-2147483648), 2147483647) := rfl
theorem ba_117 (j : Nat) : mz_bd 117 j = ((-2147483648), 2147483647) := rfl
theorem ba_119 (j : Nat) : mz_bd 119 j = ((-2147483648), 2147483647) := rfl
theorem ba_120 (j : Nat) : mz_bd 120 j = ((-2147483648), 2147483647) := rfl
theorem ba_121 (j : Nat) : mz_bd 121 j = ((-2147483648), 2147483647) := rfl
theorem rf_0_3 (a b : Nat) (c : Option Nat) : mm_HR a b c 0 3 = some 81 := rfl
theorem rf_0_4 (a b : Nat) (c : Option Nat) : mm_HR a b c 0 4 = some 85 := rfl
theorem rf_0_5 (a b : Nat) (c : Option Nat) : mm_HR a b c 0 5 = some 86 := rfl
theorem rf_0_6 (a b : Nat) (c : Option Nat) : mm_HR a b c 0 6 = some 101 := rfl
theorem rf_0_8 (a b : Nat) (c : Option Nat) : mm_HR a b c 0 8 = some 116 := rfl
theorem rf_0_9 (a b : Nat) (c : Option Nat) : mm_HR a b c 0 9 = some 118 := rfl
theorem rf_0_10 (a b : Nat) (c : Option Nat) : mm_HR a b c 0 10 = some 122 := rfl
theorem rf_0_11 (a b : Nat) (c : Option Nat) : mm_HR a b c 0 11 = some 123 := rfl
theorem rf_0_12 (a b : Nat) (c : Option Nat) : mm_HR a b c 0 12 = some 124 := rfl
theorem rf_0_13 (a b : Nat) (c : Option Nat) : mm_HR a b c 0 13 = some 133 := rfl
theorem rf_0_14 (a b : Nat) (c : Option Nat) : mm_HR a b c 0 14 = some 135 := rfl
theorem rf_81_0 (a b : Nat) (c : Option Nat) : mm_HR a b c 81 0 = some 82 := rfl
theorem rf_81_3 (a b : Nat) (c : Option Nat) : mm_HR a b c 81 3 = some 84 := rfl
theorem rf_82_0 (a b : Nat) (c : Option Nat) : mm_HR a b c 82 0 = some 83 := rfl
theorem rf_86_0 (a b : Nat) (c : Option Nat) : mm_HR a b c 86 0 = some 87 := rfl
theorem rf_116_0 (a b : Nat) (c : Option Nat) : mm_HR a b c 116 0 = some 117 := rfl
theorem rf_118_0 (a b : Nat) (c : Option Nat) : mm_HR a b c 118 0 = some 119 := rfl
theorem rf_118_1 (a b : Nat) (c : Option Nat) : mm_HR a b c 118 1 = some 120 := rfl
theorem rf_118_2 (a b : Nat) (c : Option Nat) : mm_HR a b c 118 2 = some 121 := rfl
theorem kb_let_1 {q : Nat} (h : kd_let q) : mz_bd q 1 = (0, 16) := by unfold kd_let at h; rcases h with rfl | rfl | rfl | rfl | rfl | rfl | rfl | rfl | rfl | rfl | rfl | rfl | rfl | rfl | rfl | rfl | rfl | rfl | rfl | rfl <;> rfl
theorem kb_load_3 {q : Nat} (h : kd_load q) : mz_bd q 3 = (0, 8) := by unfold kd_load at h; rcases h with rfl | rfl <;> rfl
theorem kb_rule_1 {q : Nat} (h : kd_rule q) : mz_bd q 1 = (0, 700) := by unfold kd_rule at h; rcases h with rfl | rfl <;> rfl
theorem kb_story_2 {q : Nat} (h : kd_story q) : mz_bd q 2 = (0, 39) := by unfold kd_story at h; rcases h with rfl | rfl <;> rfl
theorem kb_story_3 {q : Nat} (h : kd_story q) : mz_bd q 3 = (0, 40) := by unfold kd_story at h; rcases h with rfl | rfl <;> rfl
theorem kb_story_7 {q : Nat} (h : kd_story q) : mz_bd q 7 = (0, 8) := by unfold kd_story at h; rcases h with rfl | rfl <;> rfl
theorem kb_tks_2 {q : Nat} (h : kd_tks q) : mz_bd q 2 = (0, 6) := by unfold kd_tks at h; rcases h with rfl | rfl | rfl | rfl | rfl <;> rfl
theorem kb_tks_3 {q : Nat} (h : kd_tks q) : mz_bd q 3 = ((-2147483648), 2147483647) := by unfold kd_tks at h; rcases h with rfl | rfl | rfl | rfl | rfl <;> rfl
theorem kb_trunk_0 {q : Nat} (h : kd_trunk q) : mz_bd q 0 = ((-2147483648), 2147483647) := by unfold kd_trunk at h; rcases h with rfl | rfl | rfl | rfl | rfl | rfl | rfl | rfl | rfl | rfl | rfl | rfl | rfl | rfl | rfl | rfl | rfl | rfl | rfl | rfl | rfl | rfl | rfl | rfl | rfl | rfl | rfl | rfl | rfl | rfl | rfl | rfl | rfl | rfl | rfl | rfl | rfl <;> rfl
theorem kb_trunk_1 {q : Nat} (h : kd_trunk q) : mz_bd q 1 = ((-2147483648), 2147483647) := by unfold kd_trunk at h; rcases h with rfl | rfl | rfl | rfl | rfl | rfl | rfl | rfl | rfl | rfl | rfl | rfl | rfl | rfl | rfl | rfl | rfl | rfl | rfl | rfl | rfl | rfl | rfl | rfl | rfl | rfl | rfl | rfl | rfl | rfl | rfl | rfl | rfl | rfl | rfl | rfl | rfl <;> rfl
theorem kb_trunk_2 {q : Nat} (h : kd_trunk q) : mz_bd q 2 = ((-2147483648), 2147483647) := by unfold kd_trunk at h; rcases h with rfl | rfl | rfl | rfl | rfl | rfl | rfl | rfl | rfl | rfl | rfl | rfl | rfl | rfl | rfl | rfl | rfl | rfl | rfl | rfl | rfl | rfl | rfl | rfl | rfl | rfl | rfl | rfl | rfl | rfl | rfl | rfl | rfl | rfl | rfl | rfl | rfl <;> rfl
theorem kb_trunk_3 {q : Nat} (h : kd_trunk q) : mz_bd q 3 = ((-2147483648), 2147483647) := by unfold kd_trunk at h; rcases h with rfl | rfl | rfl | rfl | rfl | rfl | rfl | rfl | rfl | rfl | rfl | rfl | rfl | rfl | rfl | rfl | rfl | rfl | rfl | rfl | rfl | rfl | rfl | rfl | rfl | rfl | rfl | rfl | rfl | rfl | rfl | rfl | rfl | rfl | rfl | rfl | rfl <;> rfl
theorem kb_trunk_4 {q : Nat} (h : kd_trunk q) : mz_bd q 4 = (0, 1) := by unfold kd_trunk at h; rcases h with rfl | rfl | rfl | rfl | rfl | rfl | rfl | rfl | rfl | rfl | rfl | rfl | rfl | rfl | rfl | rfl | rfl | rfl | rfl | rfl | rfl | rfl | rfl | rfl | rfl | rfl | rfl | rfl | rfl | rfl | rfl | rfl | rfl | rfl | rfl | rfl | rfl <;> rfl
theorem kb_words_3 {q : Nat} (h : kd_words q) : mz_bd q 3 = (0, 8) := by unfold kd_words at h; rcases h with rfl | rfl <;> rfl
theorem kb_words_8 {q : Nat} (h : kd_words q) : mz_bd q 8 = ((-2147483648), 2147483647) := by unfold kd_words at h; rcases h with rfl | rfl <;> rfl
theorem kb_words_9 {q : Nat} (h : kd_words q) : mz_bd q 9 = (0, 8) := by unfold kd_words at h; rcases h with rfl | rfl <;> rfl
theorem kr_let_0 {q : Nat} (h : kd_let q) (a b : Nat) (c : Option Nat) : mm_HR a b c q 0 = some (q + 1) := by unfold kd_let at h; rcases h with rfl | rfl | rfl | rfl | rfl | rfl | rfl | rfl | rfl | rfl | rfl | rfl | rfl | rfl | rfl | rfl | rfl | rfl | rfl | rfl <;> rfl
theorem kr_load_0 {q : Nat} (h : kd_load q) (a b : Nat) (c : Option Nat) : mm_HR a b c q 0 = some (q + 1) := by unfold kd_load at h; rcases h with rfl | rfl <;> rfl
theorem kr_load_1 {q : Nat} (h : kd_load q) (a b : Nat) (c : Option Nat) : mm_HR a b c q 1 = some (q + 26) := by unfold kd_load at h; rcases h with rfl | rfl <;> rfl
theorem kr_load_2 {q : Nat} (h : kd_load q) (a b : Nat) (c : Option Nat) : mm_HR a b c q 2 = some (q + 35) := by unfold kd_load at h; rcases h with rfl | rfl <;> rfl
theorem kr_load_4 {q : Nat} (h : kd_load q) (a b : Nat) (c : Option Nat) : mm_HR a b c q 4 = some (q + 36) := by unfold kd_load at h; rcases h with rfl | rfl <;> rfl
theorem kr_rule_0 {q : Nat} (h : kd_rule q) (a b : Nat) (c : Option Nat) : mm_HR a b c q 0 = some (q + 1) := by unfold kd_rule at h; rcases h with rfl | rfl <;> rfl
theorem kr_rule_2 {q : Nat} (h : kd_rule q) (a b : Nat) (c : Option Nat) : mm_HR a b c q 2 = some (q + 2) := by unfold kd_rule at h; rcases h with rfl | rfl <;> rfl
theorem kr_rule_3 {q : Nat} (h : kd_rule q) (a b : Nat) (c : Option Nat) : mm_HR a b c q 3 = some (q + 3) := by unfold kd_rule at h; rcases h with rfl | rfl <;> rfl
theorem kr_story_0 {q : Nat} (h : kd_story q) (a b : Nat) (c : Option Nat) : mm_HR a b c q 0 = some (q + 1) := by unfold kd_story at h; rcases h with rfl | rfl <;> rfl
theorem kr_story_1 {q : Nat} (h : kd_story q) (a b : Nat) (c : Option Nat) : mm_HR a b c q 1 = some (q + 10) := by unfold kd_story at h; rcases h with rfl | rfl <;> rfl
theorem kr_story_4 {q : Nat} (h : kd_story q) (a b : Nat) (c : Option Nat) : mm_HR a b c q 4 = some (q + 11) := by unfold kd_story at h; rcases h with rfl | rfl <;> rfl
theorem kr_story_5 {q : Nat} (h : kd_story q) (a b : Nat) (c : Option Nat) : mm_HR a b c q 5 = some (q + 12) := by unfold kd_story at h; rcases h with rfl | rfl <;> rfl
theorem kr_story_6 {q : Nat} (h : kd_story q) (a b : Nat) (c : Option Nat) : mm_HR a b c q 6 = some (q + 13) := by unfold kd_story at h; rcases h with rfl | rfl <;> rfl
theorem kr_story_8 {q : Nat} (h : kd_story q) (a b : Nat) (c : Option Nat) : mm_HR a b c q 8 = some (q + 14) := by unfold kd_story at h; rcases h with rfl | rfl <;> rfl
theorem kr_tks_0 {q : Nat} (h : kd_tks q) (a b : Nat) (c : Option Nat) : mm_HR a b c q 0 = some (q + 1) := by unfold kd_tks at h; rcases h with rfl | rfl | rfl | rfl | rfl <;> rfl
theorem kr_tks_1 {q : Nat} (h : kd_tks q) (a b : Nat) (c : Option Nat) : mm_HR a b c q 1 = some (q + 2) := by unfold kd_tks at h; rcases h with rfl | rfl | rfl | rfl | rfl <;> rfl
theorem kr_words_0 {q : Nat} (h : kd_words q) (a b : Nat) (c : Option Nat) : mm_HR a b c q 0 = some (q + 1) := by unfold kd_words at h; rcases h with rfl | rfl <;> rfl
theorem kr_words_1 {q : Nat} (h : kd_words q) (a b : Nat) (c : Option Nat) : mm_HR a b c q 1 = some (q + 2) := by unfold kd_words at h; rcases h with rfl | rfl <;> rfl
theorem kr_words_2 {q : Nat} (h : kd_words q) (a b : Nat) (c : Option Nat) : mm_HR a b c q 2 = some (q + 4) := by unfold kd_words at h; rcases h with rfl | rfl <;> rfl
theorem kr_words_4 {q : Nat} (h : kd_words q) (a b : Nat) (c : Option Nat) : mm_HR a b c q 4 = some (q + 5) := by unfold kd_words at h; rcases h with rfl | rfl <;> rfl
theorem kr_words_5 {q : Nat} (h : kd_words q) (a b : Nat) (c : Option Nat) : mm_HR a b c q 5 = some (q + 6) := by unfold kd_words at h; rcases h with rfl | rfl <;> rfl
theorem kr_words_6 {q : Nat} (h : kd_words q) (a b : Nat) (c : Option Nat) : mm_HR a b c q 6 = some (q + 7) := by unfold kd_words at h; rcases h with rfl | rfl <;> rfl
theorem kr_words_7 {q : Nat} (h : kd_words q) (a b : Nat) (c : Option Nat) : mm_HR a b c q 7 = some (q + 8) := by unfold kd_words at h; rcases h with rfl | rfl <;> rfl
theorem ka_load_2 {q : Nat} (h : kd_load q) (L : Nat) : mm_SH L (q + 35) = (100, 8) := by unfold kd_load at h; rcases h with rfl | rfl <;> rfl
theorem kba_load_2 {q : Nat} (h : kd_load q) (j : Nat) : mz_bd (q + 35) j = ((-2147483648), 2147483647) := by unfold kd_load at h; rcases h with rfl | rfl <;> rfl
theorem ka_rule_0 {q : Nat} (h : kd_rule q) (L : Nat) : mm_SH L (q + 1) = (100, 700) := by unfold kd_rule at h; rcases h with rfl | rfl <;> rfl
theorem kba_rule_0 {q : Nat} (h : kd_rule q) (j : Nat) : mz_bd (q + 1) j = ((-2147483648), 2147483647) := by unfold kd_rule at h; rcases h with rfl | rfl <;> rfl
theorem ka_rule_2 {q : Nat} (h : kd_rule q) (L : Nat) : mm_SH L (q + 2) = (100, 7) := by unfold kd_rule at h; rcases h with rfl | rfl <;> rfl
theorem kba_rule_2 {q : Nat} (h : kd_rule q) (j : Nat) : mz_bd (q + 2) j = ((-2147483648), 2147483647) := by unfold kd_rule at h; rcases h with rfl | rfl <;> rfl
theorem ka_rule_3 {q : Nat} (h : kd_rule q) (L : Nat) : mm_SH L (q + 3) = (100, 40) := by unfold kd_rule at h; rcases h with rfl | rfl <;> rfl
theorem kba_rule_3 {q : Nat} (h : kd_rule q) (j : Nat) : mz_bd (q + 3) j = ((-2147483648), 2147483647) := by unfold kd_rule at h; rcases h with rfl | rfl <;> rfl
theorem ka_story_1 {q : Nat} (h : kd_story q) (L : Nat) : mm_SH L (q + 10) = (100, 1000) := by unfold kd_story at h; rcases h with rfl | rfl <;> rfl
theorem kba_story_1 {q : Nat} (h : kd_story q) (j : Nat) : mz_bd (q + 10) j = ((-2147483648), 2147483647) := by unfold kd_story at h; rcases h with rfl | rfl <;> rfl
theorem ka_story_4 {q : Nat} (h : kd_story q) (L : Nat) : mm_SH L (q + 11) = (100, 8) := by unfold kd_story at h; rcases h with rfl | rfl <;> rfl
theorem kba_story_4 {q : Nat} (h : kd_story q) (j : Nat) : mz_bd (q + 11) j = ((-2147483648), 2147483647) := by unfold kd_story at h; rcases h with rfl | rfl <;> rfl
theorem ka_story_5 {q : Nat} (h : kd_story q) (L : Nat) : mm_SH L (q + 12) = (100, 8) := by unfold kd_story at h; rcases h with rfl | rfl <;> rfl
theorem kba_story_5 {q : Nat} (h : kd_story q) (j : Nat) : mz_bd (q + 12) j = (0, 20) := by unfold kd_story at h; rcases h with rfl | rfl <;> rfl
theorem ka_story_6 {q : Nat} (h : kd_story q) (L : Nat) : mm_SH L (q + 13) = (100, 8) := by unfold kd_story at h; rcases h with rfl | rfl <;> rfl
theorem kba_story_6 {q : Nat} (h : kd_story q) (j : Nat) : mz_bd (q + 13) j = ((-2147483648), 2147483647) := by unfold kd_story at h; rcases h with rfl | rfl <;> rfl
theorem ka_story_8 {q : Nat} (h : kd_story q) (L : Nat) : mm_SH L (q + 14) = (100, 3) := by unfold kd_story at h; rcases h with rfl | rfl <;> rfl
theorem kba_story_8 {q : Nat} (h : kd_story q) (j : Nat) : mz_bd (q + 14) j = ((-2147483648), 2147483647) := by unfold kd_story at h; rcases h with rfl | rfl <;> rfl
theorem ka_tks_0 {q : Nat} (h : kd_tks q) (L : Nat) : mm_SH L (q + 1) = (104, 6) := by unfold kd_tks at h; rcases h with rfl | rfl | rfl | rfl | rfl <;> rfl
theorem ka_words_0 {q : Nat} (h : kd_words q) (L : Nat) : mm_SH L (q + 1) = (103, 8) := by unfold kd_words at h; rcases h with rfl | rfl <;> rfl
theorem ka_words_2 {q : Nat} (h : kd_words q) (L : Nat) : mm_SH L (q + 4) = (100, 8) := by unfold kd_words at h; rcases h with rfl | rfl <;> rfl
theorem kba_words_2 {q : Nat} (h : kd_words q) (j : Nat) : mz_bd (q + 4) j = ((-2147483648), 2147483647) := by unfold kd_words at h; rcases h with rfl | rfl <;> rfl
theorem ka_words_4 {q : Nat} (h : kd_words q) (L : Nat) : mm_SH L (q + 5) = (100, 64) := by unfold kd_words at h; rcases h with rfl | rfl <;> rfl
theorem kba_words_4 {q : Nat} (h : kd_words q) (j : Nat) : mz_bd (q + 5) j = ((-2147483648), 2147483647) := by unfold kd_words at h; rcases h with rfl | rfl <;> rfl
theorem ka_words_5 {q : Nat} (h : kd_words q) (L : Nat) : mm_SH L (q + 6) = (100, 64) := by unfold kd_words at h; rcases h with rfl | rfl <;> rfl
theorem kba_words_5 {q : Nat} (h : kd_words q) (j : Nat) : mz_bd (q + 6) j = ((-2147483648), 2147483647) := by unfold kd_words at h; rcases h with rfl | rfl <;> rfl
theorem ka_words_6 {q : Nat} (h : kd_words q) (L : Nat) : mm_SH L (q + 7) = (100, 8) := by unfold kd_words at h; rcases h with rfl | rfl <;> rfl
theorem kba_words_6 {q : Nat} (h : kd_words q) (j : Nat) : mz_bd (q + 7) j = ((-2147483648), 2147483647) := by unfold kd_words at h; rcases h with rfl | rfl <;> rfl
theorem ka_words_7 {q : Nat} (h : kd_words q) (L : Nat) : mm_SH L (q + 8) = (100, 8) := by unfold kd_words at h; rcases h with rfl | rfl <;> rfl
theorem kba_words_7 {q : Nat} (h : kd_words q) (j : Nat) : mz_bd (q + 8) j = ((-2147483648), 2147483647) := by unfold kd_words at h; rcases h with rfl | rfl <;> rfl
theorem ks_load_0 {q : Nat} (h : kd_load q) : kd_words (q + 1) := by unfold kd_words; unfold kd_load at h; rcases h with rfl | rfl <;> decide
theorem ks_load_1 {q : Nat} (h : kd_load q) : kd_tks (q + 26) := by unfold kd_tks; unfold kd_load at h; rcases h with rfl | rfl <;> decide
theorem ks_load_4 {q : Nat} (h : kd_load q) : kd_rule (q + 36) := by unfold kd_rule; unfold kd_load at h; rcases h with rfl | rfl <;> decide
theorem ks_story_0 {q : Nat} (h : kd_story q) : kd_tks (q + 1) := by unfold kd_tks; unfold kd_story at h; rcases h with rfl | rfl <;> decide
theorem ks_tks_1 {q : Nat} (h : kd_tks q) : kd_trunk (q + 2) := by unfold kd_trunk; unfold kd_tks at h; rcases h with rfl | rfl | rfl | rfl | rfl <;> decide
theorem ks_words_1 {q : Nat} (h : kd_words q) : kd_let (q + 2) := by unfold kd_let; unfold kd_words at h; rcases h with rfl | rfl <;> decide
theorem kp_let_133 : kd_let 133 := by unfold kd_let; decide
theorem kp_let_135 : kd_let 135 := by unfold kd_let; decide
theorem kp_story_86 : kd_story 86 := by unfold kd_story; decide
theorem kp_story_101 : kd_story 101 := by unfold kd_story; decide
theorem kp_tks_87 : kd_tks 87 := by unfold kd_tks; decide
theorem kp_tks_124 : kd_tks 124 := by unfold kd_tks; decide
theorem kp_trunk_122 : kd_trunk 122 := by unfold kd_trunk; decide
theorem kp_trunk_123 : kd_trunk 123 := by unfold kd_trunk; decide
theorem nh_X11_mustBe : ∀ M1, mm_at mm_prog 174 = some M1 → M1.2.2.2.1 = [] := mz_nop (M0 := mmX11_mustBe) rfl rfl
theorem nh_X11_mustFit : ∀ M1, mm_at mm_prog 175 = some M1 → M1.2.2.2.1 = [] := mz_nop (M0 := mmX11_mustFit) rfl rfl
