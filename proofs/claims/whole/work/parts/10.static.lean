abbrev ct_T : Type := Nat × Nat × Nat
def cs_shl : List (Nat × Nat) := [(999, 0), (9, 0), (101, 1600), (2, 0), (100, 6), (100, 6), (100, 6), (100, 9), (100, 9), (100, 9), (100, 2), (100, 2), (100, 12), (1, 0), (100, 270), (100, 30), (5, 0), (6, 0), (103, 20), (101, 0), (103, 6), (103, 2), (2, 0), (100, 6), (100, 6), (100, 6), (100, 9), (100, 9), (100, 9), (100, 2), (100, 2), (100, 12), (1, 0), (100, 270), (100, 30), (8, 0), (100, 6), (100, 6), (3, 0), (100, 615), (100, 45), (4, 0), (8, 0), (100, 6), (100, 6), (100, 12), (0, 0), (100, 6), (7, 0), (100, 30), (100, 30), (100, 30), (102, 30), (100, 30), (100, 30), (101, 2790), (100, 100), (8, 0), (100, 6), (100, 6), (100, 6), (10, 0), (100, 1600), (103, 8), (100, 320), (100, 320), (100, 320), (100, 320), (100, 160), (100, 64), (100, 5), (100, 6), (100, 6), (100, 6), (100, 9), (100, 9), (100, 9), (100, 2), (100, 12), (100, 2), (100, 6), (100, 6), (100, 6), (100, 9), (100, 9), (100, 9), (100, 2), (100, 12), (100, 2), (100, 15), (100, 15), (100, 600), (100, 6), (100, 6), (100, 6), (100, 4), (100, 4), (100, 30), (100, 30), (100, 30), (100, 30), (100, 30), (102, 30), (100, 2790), (100, 100), (102, 31), (102, 3), (100, 45)]
def cs_sh : Nat → Nat × Nat := fun r => cs_shl.getD r (999, 0)
def cs_rl : List (List Nat) := [[], [2, 0, 3, 0, 0, 16, 35, 38, 40, 0, 41, 46, 48, 60], [], [0, 4, 5, 6, 0, 7, 8, 9, 0, 10, 11, 12, 0, 0, 0, 13], [], [], [], [], [], [], [], [], [], [14, 15], [], [], [17, 20, 21, 22], [18, 19], [], [], [], [], [0, 23, 24, 25, 0, 26, 27, 28, 0, 29, 30, 31, 0, 0, 0, 32], [], [], [], [], [], [], [], [], [], [33, 34], [], [], [36, 37], [], [], [39], [], [], [42, 45], [43, 44], [], [], [], [47], [], [49, 50, 51, 52, 53, 54, 55, 0, 56, 57], [], [], [], [], [], [], [], [], [58, 59], [], [], [], [62, 0, 0, 0, 0, 0, 0, 0, 0, 0, 63, 64, 65, 66, 67, 68, 69, 0, 0, 0, 0, 0, 0, 0, 0, 0, 70, 71, 72, 73, 74, 75, 76, 77, 78, 79, 80, 81, 82, 83, 84, 85, 86, 87, 88, 0, 0, 0, 0, 0, 0, 0, 0, 0, 0, 0, 0, 0, 0, 0, 89, 90, 91, 0, 0, 92, 93, 94, 0, 0, 95, 96, 97, 98, 99, 100, 101, 102, 0, 0, 103, 104, 105, 106, 107], [], [], [], [], [], [], [], [], [], [], [], [], [], [], [], [], [], [], [], [], [], [], [], [], [], [], [], [], [], [], [], [], [], [], [], [], [], [], [], [], [], [], [], [], [], []]
def cs_rf (t : ct_T) : Nat → Nat → Nat := fun r k => if r = 1 ∧ k = 2 then t.1 else if r = 16 ∧ k = 3 then t.2.1 else if r = 17 ∧ k = 1 then t.2.2 else (cs_rl.getD r []).getD k 0
/-- the world's fixed part, once both objects are made; t: the HAMLET that is told, the draft, the text -/
def cs (t : ct_T) : pw_C := (107, cs_sh, cs_rf t)
theorem px_sh2 {w : pw_W} {c : pw_C} {r ci n : Nat} (hw : w.1 = c) (h : c.2.1 r = (ci, n)) : pw_sh w r = (ci, n) := by unfold pw_sh; rw [hw]; exact h
theorem px_sh1 {w : pw_W} {c : pw_C} {r ci n : Nat} (hw : w.1 = c) (h : c.2.1 r = (ci, n)) : (pw_sh w r).1 = ci := by rw [px_sh2 hw h]
theorem px_rf {w : pw_W} {c : pw_C} {r k v : Nat} (hw : w.1 = c) (h : c.2.2 r k = v) : pw_R w r k = v := by unfold pw_R; rw [hw]; exact h
theorem sh_1 {t : ct_T} : (cs t).2.1 1 = (9, 0) := rfl
theorem sh_2 {t : ct_T} : (cs t).2.1 2 = (101, 1600) := rfl
theorem sh_3 {t : ct_T} : (cs t).2.1 3 = (2, 0) := rfl
theorem sh_4 {t : ct_T} : (cs t).2.1 4 = (100, 6) := rfl
theorem sh_5 {t : ct_T} : (cs t).2.1 5 = (100, 6) := rfl
theorem sh_6 {t : ct_T} : (cs t).2.1 6 = (100, 6) := rfl
theorem sh_7 {t : ct_T} : (cs t).2.1 7 = (100, 9) := rfl
theorem sh_8 {t : ct_T} : (cs t).2.1 8 = (100, 9) := rfl
theorem sh_9 {t : ct_T} : (cs t).2.1 9 = (100, 9) := rfl
theorem sh_10 {t : ct_T} : (cs t).2.1 10 = (100, 2) := rfl
theorem sh_11 {t : ct_T} : (cs t).2.1 11 = (100, 2) := rfl
theorem sh_12 {t : ct_T} : (cs t).2.1 12 = (100, 12) := rfl
theorem sh_13 {t : ct_T} : (cs t).2.1 13 = (1, 0) := rfl
theorem sh_14 {t : ct_T} : (cs t).2.1 14 = (100, 270) := rfl
theorem sh_15 {t : ct_T} : (cs t).2.1 15 = (100, 30) := rfl
theorem sh_16 {t : ct_T} : (cs t).2.1 16 = (5, 0) := rfl
theorem sh_17 {t : ct_T} : (cs t).2.1 17 = (6, 0) := rfl
theorem sh_18 {t : ct_T} : (cs t).2.1 18 = (103, 20) := rfl
theorem sh_19 {t : ct_T} : (cs t).2.1 19 = (101, 0) := rfl
theorem sh_20 {t : ct_T} : (cs t).2.1 20 = (103, 6) := rfl
theorem sh_21 {t : ct_T} : (cs t).2.1 21 = (103, 2) := rfl
theorem sh_22 {t : ct_T} : (cs t).2.1 22 = (2, 0) := rfl
theorem sh_23 {t : ct_T} : (cs t).2.1 23 = (100, 6) := rfl
theorem sh_24 {t : ct_T} : (cs t).2.1 24 = (100, 6) := rfl
theorem sh_25 {t : ct_T} : (cs t).2.1 25 = (100, 6) := rfl
theorem sh_26 {t : ct_T} : (cs t).2.1 26 = (100, 9) := rfl
theorem sh_27 {t : ct_T} : (cs t).2.1 27 = (100, 9) := rfl
theorem sh_28 {t : ct_T} : (cs t).2.1 28 = (100, 9) := rfl
theorem sh_29 {t : ct_T} : (cs t).2.1 29 = (100, 2) := rfl
theorem sh_30 {t : ct_T} : (cs t).2.1 30 = (100, 2) := rfl
theorem sh_31 {t : ct_T} : (cs t).2.1 31 = (100, 12) := rfl
theorem sh_32 {t : ct_T} : (cs t).2.1 32 = (1, 0) := rfl
theorem sh_33 {t : ct_T} : (cs t).2.1 33 = (100, 270) := rfl
theorem sh_34 {t : ct_T} : (cs t).2.1 34 = (100, 30) := rfl
theorem sh_35 {t : ct_T} : (cs t).2.1 35 = (8, 0) := rfl
theorem sh_36 {t : ct_T} : (cs t).2.1 36 = (100, 6) := rfl
theorem sh_37 {t : ct_T} : (cs t).2.1 37 = (100, 6) := rfl
theorem sh_38 {t : ct_T} : (cs t).2.1 38 = (3, 0) := rfl
theorem sh_39 {t : ct_T} : (cs t).2.1 39 = (100, 615) := rfl
theorem sh_40 {t : ct_T} : (cs t).2.1 40 = (100, 45) := rfl
theorem sh_41 {t : ct_T} : (cs t).2.1 41 = (4, 0) := rfl
theorem sh_42 {t : ct_T} : (cs t).2.1 42 = (8, 0) := rfl
theorem sh_43 {t : ct_T} : (cs t).2.1 43 = (100, 6) := rfl
theorem sh_44 {t : ct_T} : (cs t).2.1 44 = (100, 6) := rfl
theorem sh_45 {t : ct_T} : (cs t).2.1 45 = (100, 12) := rfl
theorem sh_46 {t : ct_T} : (cs t).2.1 46 = (0, 0) := rfl
theorem sh_47 {t : ct_T} : (cs t).2.1 47 = (100, 6) := rfl
theorem sh_48 {t : ct_T} : (cs t).2.1 48 = (7, 0) := rfl
theorem sh_49 {t : ct_T} : (cs t).2.1 49 = (100, 30) := rfl
theorem sh_50 {t : ct_T} : (cs t).2.1 50 = (100, 30) := rfl
theorem sh_51 {t : ct_T} : (cs t).2.1 51 = (100, 30) := rfl
theorem sh_52 {t : ct_T} : (cs t).2.1 52 = (102, 30) := rfl
theorem sh_53 {t : ct_T} : (cs t).2.1 53 = (100, 30) := rfl
theorem sh_54 {t : ct_T} : (cs t).2.1 54 = (100, 30) := rfl
theorem sh_55 {t : ct_T} : (cs t).2.1 55 = (101, 2790) := rfl
theorem sh_56 {t : ct_T} : (cs t).2.1 56 = (100, 100) := rfl
theorem sh_57 {t : ct_T} : (cs t).2.1 57 = (8, 0) := rfl
theorem sh_58 {t : ct_T} : (cs t).2.1 58 = (100, 6) := rfl
theorem sh_59 {t : ct_T} : (cs t).2.1 59 = (100, 6) := rfl
theorem sh_60 {t : ct_T} : (cs t).2.1 60 = (100, 6) := rfl
theorem sh_61 {t : ct_T} : (cs t).2.1 61 = (10, 0) := rfl
theorem sh_62 {t : ct_T} : (cs t).2.1 62 = (100, 1600) := rfl
theorem sh_63 {t : ct_T} : (cs t).2.1 63 = (103, 8) := rfl
theorem sh_64 {t : ct_T} : (cs t).2.1 64 = (100, 320) := rfl
theorem sh_65 {t : ct_T} : (cs t).2.1 65 = (100, 320) := rfl
theorem sh_66 {t : ct_T} : (cs t).2.1 66 = (100, 320) := rfl
theorem sh_67 {t : ct_T} : (cs t).2.1 67 = (100, 320) := rfl
theorem sh_68 {t : ct_T} : (cs t).2.1 68 = (100, 160) := rfl
theorem sh_69 {t : ct_T} : (cs t).2.1 69 = (100, 64) := rfl
theorem sh_70 {t : ct_T} : (cs t).2.1 70 = (100, 5) := rfl
theorem sh_71 {t : ct_T} : (cs t).2.1 71 = (100, 6) := rfl
theorem sh_72 {t : ct_T} : (cs t).2.1 72 = (100, 6) := rfl
theorem sh_73 {t : ct_T} : (cs t).2.1 73 = (100, 6) := rfl
theorem sh_74 {t : ct_T} : (cs t).2.1 74 = (100, 9) := rfl
theorem sh_75 {t : ct_T} : (cs t).2.1 75 = (100, 9) := rfl
theorem sh_76 {t : ct_T} : (cs t).2.1 76 = (100, 9) := rfl
theorem sh_77 {t : ct_T} : (cs t).2.1 77 = (100, 2) := rfl
theorem sh_78 {t : ct_T} : (cs t).2.1 78 = (100, 12) := rfl
theorem sh_79 {t : ct_T} : (cs t).2.1 79 = (100, 2) := rfl
theorem sh_80 {t : ct_T} : (cs t).2.1 80 = (100, 6) := rfl
theorem sh_81 {t : ct_T} : (cs t).2.1 81 = (100, 6) := rfl
theorem sh_82 {t : ct_T} : (cs t).2.1 82 = (100, 6) := rfl
theorem sh_83 {t : ct_T} : (cs t).2.1 83 = (100, 9) := rfl
theorem sh_84 {t : ct_T} : (cs t).2.1 84 = (100, 9) := rfl
theorem sh_85 {t : ct_T} : (cs t).2.1 85 = (100, 9) := rfl
theorem sh_86 {t : ct_T} : (cs t).2.1 86 = (100, 2) := rfl
theorem sh_87 {t : ct_T} : (cs t).2.1 87 = (100, 12) := rfl
theorem sh_88 {t : ct_T} : (cs t).2.1 88 = (100, 2) := rfl
theorem sh_89 {t : ct_T} : (cs t).2.1 89 = (100, 15) := rfl
theorem sh_90 {t : ct_T} : (cs t).2.1 90 = (100, 15) := rfl
theorem sh_91 {t : ct_T} : (cs t).2.1 91 = (100, 600) := rfl
theorem sh_92 {t : ct_T} : (cs t).2.1 92 = (100, 6) := rfl
theorem sh_93 {t : ct_T} : (cs t).2.1 93 = (100, 6) := rfl
theorem sh_94 {t : ct_T} : (cs t).2.1 94 = (100, 6) := rfl
theorem sh_95 {t : ct_T} : (cs t).2.1 95 = (100, 4) := rfl
theorem sh_96 {t : ct_T} : (cs t).2.1 96 = (100, 4) := rfl
theorem sh_97 {t : ct_T} : (cs t).2.1 97 = (100, 30) := rfl
theorem sh_98 {t : ct_T} : (cs t).2.1 98 = (100, 30) := rfl
theorem sh_99 {t : ct_T} : (cs t).2.1 99 = (100, 30) := rfl
theorem sh_100 {t : ct_T} : (cs t).2.1 100 = (100, 30) := rfl
theorem sh_101 {t : ct_T} : (cs t).2.1 101 = (100, 30) := rfl
theorem sh_102 {t : ct_T} : (cs t).2.1 102 = (102, 30) := rfl
theorem sh_103 {t : ct_T} : (cs t).2.1 103 = (100, 2790) := rfl
theorem sh_104 {t : ct_T} : (cs t).2.1 104 = (100, 100) := rfl
theorem sh_105 {t : ct_T} : (cs t).2.1 105 = (102, 31) := rfl
theorem sh_106 {t : ct_T} : (cs t).2.1 106 = (102, 3) := rfl
theorem sh_107 {t : ct_T} : (cs t).2.1 107 = (100, 45) := rfl
theorem rf_1_0 {t : ct_T} : (cs t).2.2 1 0 = 2 := rfl
theorem rf_1_2 {t : ct_T} : (cs t).2.2 1 2 = t.1 := rfl
theorem rf_1_5 {t : ct_T} : (cs t).2.2 1 5 = 16 := rfl
theorem rf_1_6 {t : ct_T} : (cs t).2.2 1 6 = 35 := rfl
theorem rf_1_7 {t : ct_T} : (cs t).2.2 1 7 = 38 := rfl
theorem rf_1_8 {t : ct_T} : (cs t).2.2 1 8 = 40 := rfl
theorem rf_1_10 {t : ct_T} : (cs t).2.2 1 10 = 41 := rfl
theorem rf_1_11 {t : ct_T} : (cs t).2.2 1 11 = 46 := rfl
theorem rf_1_12 {t : ct_T} : (cs t).2.2 1 12 = 48 := rfl
theorem rf_1_13 {t : ct_T} : (cs t).2.2 1 13 = 60 := rfl
theorem rf_3_1 {t : ct_T} : (cs t).2.2 3 1 = 4 := rfl
theorem rf_3_2 {t : ct_T} : (cs t).2.2 3 2 = 5 := rfl
theorem rf_3_3 {t : ct_T} : (cs t).2.2 3 3 = 6 := rfl
theorem rf_3_5 {t : ct_T} : (cs t).2.2 3 5 = 7 := rfl
theorem rf_3_6 {t : ct_T} : (cs t).2.2 3 6 = 8 := rfl
theorem rf_3_7 {t : ct_T} : (cs t).2.2 3 7 = 9 := rfl
theorem rf_3_9 {t : ct_T} : (cs t).2.2 3 9 = 10 := rfl
theorem rf_3_10 {t : ct_T} : (cs t).2.2 3 10 = 11 := rfl
theorem rf_3_11 {t : ct_T} : (cs t).2.2 3 11 = 12 := rfl
theorem rf_3_15 {t : ct_T} : (cs t).2.2 3 15 = 13 := rfl
theorem rf_13_0 {t : ct_T} : (cs t).2.2 13 0 = 14 := rfl
theorem rf_13_1 {t : ct_T} : (cs t).2.2 13 1 = 15 := rfl
theorem rf_16_0 {t : ct_T} : (cs t).2.2 16 0 = 17 := rfl
theorem rf_16_1 {t : ct_T} : (cs t).2.2 16 1 = 20 := rfl
theorem rf_16_2 {t : ct_T} : (cs t).2.2 16 2 = 21 := rfl
theorem rf_16_3 {t : ct_T} : (cs t).2.2 16 3 = t.2.1 := rfl
theorem rf_17_0 {t : ct_T} : (cs t).2.2 17 0 = 18 := rfl
theorem rf_17_1 {t : ct_T} : (cs t).2.2 17 1 = t.2.2 := rfl
theorem rf_22_1 {t : ct_T} : (cs t).2.2 22 1 = 23 := rfl
theorem rf_22_2 {t : ct_T} : (cs t).2.2 22 2 = 24 := rfl
theorem rf_22_3 {t : ct_T} : (cs t).2.2 22 3 = 25 := rfl
theorem rf_22_5 {t : ct_T} : (cs t).2.2 22 5 = 26 := rfl
theorem rf_22_6 {t : ct_T} : (cs t).2.2 22 6 = 27 := rfl
theorem rf_22_7 {t : ct_T} : (cs t).2.2 22 7 = 28 := rfl
theorem rf_22_9 {t : ct_T} : (cs t).2.2 22 9 = 29 := rfl
theorem rf_22_10 {t : ct_T} : (cs t).2.2 22 10 = 30 := rfl
theorem rf_22_11 {t : ct_T} : (cs t).2.2 22 11 = 31 := rfl
theorem rf_22_15 {t : ct_T} : (cs t).2.2 22 15 = 32 := rfl
theorem rf_32_0 {t : ct_T} : (cs t).2.2 32 0 = 33 := rfl
theorem rf_32_1 {t : ct_T} : (cs t).2.2 32 1 = 34 := rfl
theorem rf_35_0 {t : ct_T} : (cs t).2.2 35 0 = 36 := rfl
theorem rf_35_1 {t : ct_T} : (cs t).2.2 35 1 = 37 := rfl
theorem rf_38_0 {t : ct_T} : (cs t).2.2 38 0 = 39 := rfl
theorem rf_41_0 {t : ct_T} : (cs t).2.2 41 0 = 42 := rfl
theorem rf_41_1 {t : ct_T} : (cs t).2.2 41 1 = 45 := rfl
theorem rf_42_0 {t : ct_T} : (cs t).2.2 42 0 = 43 := rfl
theorem rf_42_1 {t : ct_T} : (cs t).2.2 42 1 = 44 := rfl
theorem rf_46_0 {t : ct_T} : (cs t).2.2 46 0 = 47 := rfl
theorem rf_48_0 {t : ct_T} : (cs t).2.2 48 0 = 49 := rfl
theorem rf_48_1 {t : ct_T} : (cs t).2.2 48 1 = 50 := rfl
theorem rf_48_2 {t : ct_T} : (cs t).2.2 48 2 = 51 := rfl
theorem rf_48_3 {t : ct_T} : (cs t).2.2 48 3 = 52 := rfl
theorem rf_48_4 {t : ct_T} : (cs t).2.2 48 4 = 53 := rfl
theorem rf_48_5 {t : ct_T} : (cs t).2.2 48 5 = 54 := rfl
theorem rf_48_6 {t : ct_T} : (cs t).2.2 48 6 = 55 := rfl
theorem rf_48_8 {t : ct_T} : (cs t).2.2 48 8 = 56 := rfl
theorem rf_48_9 {t : ct_T} : (cs t).2.2 48 9 = 57 := rfl
theorem rf_57_0 {t : ct_T} : (cs t).2.2 57 0 = 58 := rfl
theorem rf_57_1 {t : ct_T} : (cs t).2.2 57 1 = 59 := rfl
theorem rf_61_0 {t : ct_T} : (cs t).2.2 61 0 = 62 := rfl
theorem rf_61_10 {t : ct_T} : (cs t).2.2 61 10 = 63 := rfl
theorem rf_61_11 {t : ct_T} : (cs t).2.2 61 11 = 64 := rfl
theorem rf_61_12 {t : ct_T} : (cs t).2.2 61 12 = 65 := rfl
theorem rf_61_13 {t : ct_T} : (cs t).2.2 61 13 = 66 := rfl
theorem rf_61_14 {t : ct_T} : (cs t).2.2 61 14 = 67 := rfl
theorem rf_61_15 {t : ct_T} : (cs t).2.2 61 15 = 68 := rfl
theorem rf_61_16 {t : ct_T} : (cs t).2.2 61 16 = 69 := rfl
theorem rf_61_26 {t : ct_T} : (cs t).2.2 61 26 = 70 := rfl
theorem rf_61_27 {t : ct_T} : (cs t).2.2 61 27 = 71 := rfl
theorem rf_61_28 {t : ct_T} : (cs t).2.2 61 28 = 72 := rfl
theorem rf_61_29 {t : ct_T} : (cs t).2.2 61 29 = 73 := rfl
theorem rf_61_30 {t : ct_T} : (cs t).2.2 61 30 = 74 := rfl
theorem rf_61_31 {t : ct_T} : (cs t).2.2 61 31 = 75 := rfl
theorem rf_61_32 {t : ct_T} : (cs t).2.2 61 32 = 76 := rfl
theorem rf_61_33 {t : ct_T} : (cs t).2.2 61 33 = 77 := rfl
theorem rf_61_34 {t : ct_T} : (cs t).2.2 61 34 = 78 := rfl
theorem rf_61_35 {t : ct_T} : (cs t).2.2 61 35 = 79 := rfl
theorem rf_61_36 {t : ct_T} : (cs t).2.2 61 36 = 80 := rfl
theorem rf_61_37 {t : ct_T} : (cs t).2.2 61 37 = 81 := rfl
theorem rf_61_38 {t : ct_T} : (cs t).2.2 61 38 = 82 := rfl
theorem rf_61_39 {t : ct_T} : (cs t).2.2 61 39 = 83 := rfl
theorem rf_61_40 {t : ct_T} : (cs t).2.2 61 40 = 84 := rfl
theorem rf_61_41 {t : ct_T} : (cs t).2.2 61 41 = 85 := rfl
theorem rf_61_42 {t : ct_T} : (cs t).2.2 61 42 = 86 := rfl
theorem rf_61_43 {t : ct_T} : (cs t).2.2 61 43 = 87 := rfl
theorem rf_61_44 {t : ct_T} : (cs t).2.2 61 44 = 88 := rfl
theorem rf_61_60 {t : ct_T} : (cs t).2.2 61 60 = 89 := rfl
theorem rf_61_61 {t : ct_T} : (cs t).2.2 61 61 = 90 := rfl
theorem rf_61_62 {t : ct_T} : (cs t).2.2 61 62 = 91 := rfl
theorem rf_61_65 {t : ct_T} : (cs t).2.2 61 65 = 92 := rfl
theorem rf_61_66 {t : ct_T} : (cs t).2.2 61 66 = 93 := rfl
theorem rf_61_67 {t : ct_T} : (cs t).2.2 61 67 = 94 := rfl
theorem rf_61_70 {t : ct_T} : (cs t).2.2 61 70 = 95 := rfl
theorem rf_61_71 {t : ct_T} : (cs t).2.2 61 71 = 96 := rfl
theorem rf_61_72 {t : ct_T} : (cs t).2.2 61 72 = 97 := rfl
theorem rf_61_73 {t : ct_T} : (cs t).2.2 61 73 = 98 := rfl
theorem rf_61_74 {t : ct_T} : (cs t).2.2 61 74 = 99 := rfl
theorem rf_61_75 {t : ct_T} : (cs t).2.2 61 75 = 100 := rfl
theorem rf_61_76 {t : ct_T} : (cs t).2.2 61 76 = 101 := rfl
theorem rf_61_77 {t : ct_T} : (cs t).2.2 61 77 = 102 := rfl
theorem rf_61_80 {t : ct_T} : (cs t).2.2 61 80 = 103 := rfl
theorem rf_61_81 {t : ct_T} : (cs t).2.2 61 81 = 104 := rfl
theorem rf_61_82 {t : ct_T} : (cs t).2.2 61 82 = 105 := rfl
theorem rf_61_83 {t : ct_T} : (cs t).2.2 61 83 = 106 := rfl
theorem rf_61_84 {t : ct_T} : (cs t).2.2 61 84 = 107 := rfl
theorem cs_sR_1_2 {w : pw_W} {t : ct_T} {v : Nat} (hw : w.1 = cs t) : (pw_sR w 1 2 v).1 = cs (v, t.2.1, t.2.2) := by
  show (w.1.1, w.1.2.1, pw_u2 w.1.2.2 1 2 v) = cs (v, t.2.1, t.2.2)
  rw [hw]
  show (107, cs_sh, pw_u2 (cs_rf t) 1 2 v) = (107, cs_sh, cs_rf (v, t.2.1, t.2.2))
  congr 2
  funext a b
  unfold pw_u2 cs_rf
  by_cases h1 : a = 1 ∧ b = 2
  · obtain ⟨rfl, rfl⟩ := h1; rfl
  · by_cases h2 : a = 16 ∧ b = 3
    · obtain ⟨rfl, rfl⟩ := h2; rfl
    · by_cases h3 : a = 17 ∧ b = 1
      · obtain ⟨rfl, rfl⟩ := h3; rfl
      · simp only [h1, h2, h3, if_false]
theorem cs_sR_16_3 {w : pw_W} {t : ct_T} {v : Nat} (hw : w.1 = cs t) : (pw_sR w 16 3 v).1 = cs (t.1, v, t.2.2) := by
  show (w.1.1, w.1.2.1, pw_u2 w.1.2.2 16 3 v) = cs (t.1, v, t.2.2)
  rw [hw]
  show (107, cs_sh, pw_u2 (cs_rf t) 16 3 v) = (107, cs_sh, cs_rf (t.1, v, t.2.2))
  congr 2
  funext a b
  unfold pw_u2 cs_rf
  by_cases h1 : a = 1 ∧ b = 2
  · obtain ⟨rfl, rfl⟩ := h1; rfl
  · by_cases h2 : a = 16 ∧ b = 3
    · obtain ⟨rfl, rfl⟩ := h2; rfl
    · by_cases h3 : a = 17 ∧ b = 1
      · obtain ⟨rfl, rfl⟩ := h3; rfl
      · simp only [h1, h2, h3, if_false]
theorem cs_sR_17_1 {w : pw_W} {t : ct_T} {v : Nat} (hw : w.1 = cs t) : (pw_sR w 17 1 v).1 = cs (t.1, t.2.1, v) := by
  show (w.1.1, w.1.2.1, pw_u2 w.1.2.2 17 1 v) = cs (t.1, t.2.1, v)
  rw [hw]
  show (107, cs_sh, pw_u2 (cs_rf t) 17 1 v) = (107, cs_sh, cs_rf (t.1, t.2.1, v))
  congr 2
  funext a b
  unfold pw_u2 cs_rf
  by_cases h1 : a = 1 ∧ b = 2
  · obtain ⟨rfl, rfl⟩ := h1; rfl
  · by_cases h2 : a = 16 ∧ b = 3
    · obtain ⟨rfl, rfl⟩ := h2; rfl
    · by_cases h3 : a = 17 ∧ b = 1
      · obtain ⟨rfl, rfl⟩ := h3; rfl
      · simp only [h1, h2, h3, if_false]
def is_State (r : Nat) : Prop := r = 35 ∨ r = 42 ∨ r = 57
theorem is_State.sh {r : Nat} {t : ct_T} (h : is_State r) : (cs t).2.1 r = (8, 0) := by rcases h with rfl | rfl | rfl <;> rfl
theorem is_State.ne {r : Nat} (h : is_State r) : r ≠ 0 := by rcases h with rfl | rfl | rfl <;> decide
theorem is_State.rf0 {r : Nat} {t : ct_T} (h : is_State r) : (cs t).2.2 r 0 = r + 1 := by rcases h with rfl | rfl | rfl <;> rfl
theorem is_State.sh1 {r : Nat} {t : ct_T} (h : is_State r) : (cs t).2.1 (r + 1) = (100, 6) := by rcases h with rfl | rfl | rfl <;> rfl
theorem is_State.rf1 {r : Nat} {t : ct_T} (h : is_State r) : (cs t).2.2 r 1 = r + 2 := by rcases h with rfl | rfl | rfl <;> rfl
theorem is_State.sh2 {r : Nat} {t : ct_T} (h : is_State r) : (cs t).2.1 (r + 2) = (100, 6) := by rcases h with rfl | rfl | rfl <;> rfl
def is_Formula (r : Nat) : Prop := r = 13 ∨ r = 32
theorem is_Formula.sh {r : Nat} {t : ct_T} (h : is_Formula r) : (cs t).2.1 r = (1, 0) := by rcases h with rfl | rfl <;> rfl
theorem is_Formula.ne {r : Nat} (h : is_Formula r) : r ≠ 0 := by rcases h with rfl | rfl <;> decide
theorem is_Formula.rf0 {r : Nat} {t : ct_T} (h : is_Formula r) : (cs t).2.2 r 0 = r + 1 := by rcases h with rfl | rfl <;> rfl
theorem is_Formula.sh1 {r : Nat} {t : ct_T} (h : is_Formula r) : (cs t).2.1 (r + 1) = (100, 270) := by rcases h with rfl | rfl <;> rfl
theorem is_Formula.rf1 {r : Nat} {t : ct_T} (h : is_Formula r) : (cs t).2.2 r 1 = r + 2 := by rcases h with rfl | rfl <;> rfl
theorem is_Formula.sh2 {r : Nat} {t : ct_T} (h : is_Formula r) : (cs t).2.1 (r + 2) = (100, 30) := by rcases h with rfl | rfl <;> rfl
def is_Hamlet (r : Nat) : Prop := r = 3 ∨ r = 22
theorem is_Hamlet.sh {r : Nat} {t : ct_T} (h : is_Hamlet r) : (cs t).2.1 r = (2, 0) := by rcases h with rfl | rfl <;> rfl
theorem is_Hamlet.ne {r : Nat} (h : is_Hamlet r) : r ≠ 0 := by rcases h with rfl | rfl <;> decide
theorem is_Hamlet.rf1 {r : Nat} {t : ct_T} (h : is_Hamlet r) : (cs t).2.2 r 1 = r + 1 := by rcases h with rfl | rfl <;> rfl
theorem is_Hamlet.sh1 {r : Nat} {t : ct_T} (h : is_Hamlet r) : (cs t).2.1 (r + 1) = (100, 6) := by rcases h with rfl | rfl <;> rfl
theorem is_Hamlet.rf2 {r : Nat} {t : ct_T} (h : is_Hamlet r) : (cs t).2.2 r 2 = r + 2 := by rcases h with rfl | rfl <;> rfl
theorem is_Hamlet.sh2 {r : Nat} {t : ct_T} (h : is_Hamlet r) : (cs t).2.1 (r + 2) = (100, 6) := by rcases h with rfl | rfl <;> rfl
theorem is_Hamlet.rf3 {r : Nat} {t : ct_T} (h : is_Hamlet r) : (cs t).2.2 r 3 = r + 3 := by rcases h with rfl | rfl <;> rfl
theorem is_Hamlet.sh3 {r : Nat} {t : ct_T} (h : is_Hamlet r) : (cs t).2.1 (r + 3) = (100, 6) := by rcases h with rfl | rfl <;> rfl
theorem is_Hamlet.rf5 {r : Nat} {t : ct_T} (h : is_Hamlet r) : (cs t).2.2 r 5 = r + 4 := by rcases h with rfl | rfl <;> rfl
theorem is_Hamlet.sh4 {r : Nat} {t : ct_T} (h : is_Hamlet r) : (cs t).2.1 (r + 4) = (100, 9) := by rcases h with rfl | rfl <;> rfl
theorem is_Hamlet.rf6 {r : Nat} {t : ct_T} (h : is_Hamlet r) : (cs t).2.2 r 6 = r + 5 := by rcases h with rfl | rfl <;> rfl
theorem is_Hamlet.sh5 {r : Nat} {t : ct_T} (h : is_Hamlet r) : (cs t).2.1 (r + 5) = (100, 9) := by rcases h with rfl | rfl <;> rfl
theorem is_Hamlet.rf7 {r : Nat} {t : ct_T} (h : is_Hamlet r) : (cs t).2.2 r 7 = r + 6 := by rcases h with rfl | rfl <;> rfl
theorem is_Hamlet.sh6 {r : Nat} {t : ct_T} (h : is_Hamlet r) : (cs t).2.1 (r + 6) = (100, 9) := by rcases h with rfl | rfl <;> rfl
theorem is_Hamlet.rf9 {r : Nat} {t : ct_T} (h : is_Hamlet r) : (cs t).2.2 r 9 = r + 7 := by rcases h with rfl | rfl <;> rfl
theorem is_Hamlet.sh7 {r : Nat} {t : ct_T} (h : is_Hamlet r) : (cs t).2.1 (r + 7) = (100, 2) := by rcases h with rfl | rfl <;> rfl
theorem is_Hamlet.rf10 {r : Nat} {t : ct_T} (h : is_Hamlet r) : (cs t).2.2 r 10 = r + 8 := by rcases h with rfl | rfl <;> rfl
theorem is_Hamlet.sh8 {r : Nat} {t : ct_T} (h : is_Hamlet r) : (cs t).2.1 (r + 8) = (100, 2) := by rcases h with rfl | rfl <;> rfl
theorem is_Hamlet.rf11 {r : Nat} {t : ct_T} (h : is_Hamlet r) : (cs t).2.2 r 11 = r + 9 := by rcases h with rfl | rfl <;> rfl
theorem is_Hamlet.sh9 {r : Nat} {t : ct_T} (h : is_Hamlet r) : (cs t).2.1 (r + 9) = (100, 12) := by rcases h with rfl | rfl <;> rfl
theorem is_Hamlet.rf15 {r : Nat} {t : ct_T} (h : is_Hamlet r) : (cs t).2.2 r 15 = r + 10 := by rcases h with rfl | rfl <;> rfl
theorem is_Hamlet.is10 {r : Nat} (h : is_Hamlet r) : is_Formula (r + 10) := by rcases h with rfl | rfl <;> simp [is_Formula]
