theorem fr_9_9 : px_flr "NettleGreen" 9 9 0 := ⟨_, _, _, px_cf9, by decide, (px_in2 183 rfl rfl)⟩
theorem fl_9_9 : px_fl "NettleGreen" 9 9 0 true := ⟨_, _, _, px_cf9, by decide, (px_in2 183 rfl rfl), rfl, by decide⟩
theorem fr_9_13 : px_flr "NettleGreen" 13 9 1 := ⟨_, _, _, px_cf9, by decide, (px_in2 184 rfl rfl)⟩
theorem fl_9_13 : px_fl "NettleGreen" 13 9 1 false := ⟨_, _, _, px_cf9, by decide, (px_in2 184 rfl rfl), rfl, by decide⟩
theorem fr_9_20 : px_flr "NettleGreen" 20 9 2 := ⟨_, _, _, px_cf9, by decide, (px_in2 185 rfl rfl)⟩
theorem fl_9_20 : px_fl "NettleGreen" 20 9 2 false := ⟨_, _, _, px_cf9, by decide, (px_in2 185 rfl rfl), rfl, by decide⟩
theorem fr_9_24 : px_flr "NettleGreen" 24 9 3 := ⟨_, _, _, px_cf9, by decide, (px_in2 186 rfl rfl)⟩
theorem fl_9_24 : px_fl "NettleGreen" 24 9 3 false := ⟨_, _, _, px_cf9, by decide, (px_in2 186 rfl rfl), rfl, by decide⟩
theorem fr_9_27 : px_flr "NettleGreen" 27 9 4 := ⟨_, _, _, px_cf9, by decide, (px_in2 187 rfl rfl)⟩
theorem fl_9_27 : px_fl "NettleGreen" 27 9 4 false := ⟨_, _, _, px_cf9, by decide, (px_in2 187 rfl rfl), rfl, by decide⟩
theorem fr_9_33 : px_flr "NettleGreen" 33 9 5 := ⟨_, _, _, px_cf9, by decide, (px_in2 188 rfl rfl)⟩
theorem fl_9_33 : px_fl "NettleGreen" 33 9 5 true := ⟨_, _, _, px_cf9, by decide, (px_in2 188 rfl rfl), rfl, by decide⟩
theorem fr_9_40 : px_flr "NettleGreen" 40 9 6 := ⟨_, _, _, px_cf9, by decide, (px_in2 189 rfl rfl)⟩
theorem fl_9_40 : px_fl "NettleGreen" 40 9 6 true := ⟨_, _, _, px_cf9, by decide, (px_in2 189 rfl rfl), rfl, by decide⟩
theorem fr_9_47 : px_flr "NettleGreen" 47 9 7 := ⟨_, _, _, px_cf9, by decide, (px_in2 190 rfl rfl)⟩
theorem fl_9_47 : px_fl "NettleGreen" 47 9 7 true := ⟨_, _, _, px_cf9, by decide, (px_in2 190 rfl rfl), rfl, by decide⟩
theorem fr_9_51 : px_flr "NettleGreen" 51 9 8 := ⟨_, _, _, px_cf9, by decide, (px_in2 191 rfl rfl)⟩
theorem fl_9_51 : px_fl "NettleGreen" 51 9 8 true := ⟨_, _, _, px_cf9, by decide, (px_in2 191 rfl rfl), rfl, by decide⟩
theorem fr_9_55 : px_flr "NettleGreen" 55 9 9 := ⟨_, _, _, px_cf9, by decide, (px_in2 192 rfl rfl)⟩
theorem fl_9_55 : px_fl "NettleGreen" 55 9 9 false := ⟨_, _, _, px_cf9, by decide, (px_in2 192 rfl rfl), rfl, by decide⟩
theorem fr_9_61 : px_flr "NettleGreen" 61 9 10 := ⟨_, _, _, px_cf9, by decide, (px_in2 193 rfl rfl)⟩
theorem fl_9_61 : px_fl "NettleGreen" 61 9 10 true := ⟨_, _, _, px_cf9, by decide, (px_in2 193 rfl rfl), rfl, by decide⟩
theorem fr_9_68 : px_flr "NettleGreen" 68 9 11 := ⟨_, _, _, px_cf9, by decide, (px_in2 194 rfl rfl)⟩
theorem fl_9_68 : px_fl "NettleGreen" 68 9 11 true := ⟨_, _, _, px_cf9, by decide, (px_in2 194 rfl rfl), rfl, by decide⟩
theorem fr_9_75 : px_flr "NettleGreen" 75 9 12 := ⟨_, _, _, px_cf9, by decide, (px_in2 195 rfl rfl)⟩
theorem fl_9_75 : px_fl "NettleGreen" 75 9 12 true := ⟨_, _, _, px_cf9, by decide, (px_in2 195 rfl rfl), rfl, by decide⟩
theorem fr_9_79 : px_flr "NettleGreen" 79 9 13 := ⟨_, _, _, px_cf9, by decide, (px_in2 196 rfl rfl)⟩
theorem fl_9_79 : px_fl "NettleGreen" 79 9 13 true := ⟨_, _, _, px_cf9, by decide, (px_in2 196 rfl rfl), rfl, by decide⟩
theorem fr_9_82 : px_flr "NettleGreen" 82 9 14 := ⟨_, _, _, px_cf9, by decide, (px_in2 197 rfl rfl)⟩
theorem fl_9_82 : px_fl "NettleGreen" 82 9 14 false := ⟨_, _, _, px_cf9, by decide, (px_in2 197 rfl rfl), rfl, by decide⟩
theorem fr_9_93 : px_flr "NettleGreen" 93 5 5 := ⟨_, _, _, px_cf5, by decide, (px_in2 31 rfl rfl)⟩
theorem fl_9_93 : px_fl "NettleGreen" 93 5 5 false := ⟨_, _, _, px_cf5, by decide, (px_in2 31 rfl rfl), rfl, by decide⟩
theorem fr_9_94 : px_flr "NettleGreen" 94 5 6 := ⟨_, _, _, px_cf5, by decide, (px_in2 33 rfl rfl)⟩
theorem fl_9_94 : px_fl "NettleGreen" 94 5 6 false := ⟨_, _, _, px_cf5, by decide, (px_in2 33 rfl rfl), rfl, by decide⟩
theorem fr_9_110 : px_flr "NettleGreen" 110 2 0 := ⟨_, _, _, px_cf2, by decide, (px_in1 76 rfl rfl)⟩
theorem fl_9_110 : px_fl "NettleGreen" 110 2 0 false := ⟨_, _, _, px_cf2, by decide, (px_in1 76 rfl rfl), rfl, by decide⟩
theorem fr_9_117 : px_flr "NettleGreen" 117 8 1 := ⟨_, _, _, px_cf8, by decide, (px_in2 62 rfl rfl)⟩
theorem fr_9_120 : px_flr "NettleGreen" 120 2 2 := ⟨_, _, _, px_cf2, by decide, (px_in1 85 rfl rfl)⟩
theorem fr_9_123 : px_flr "NettleGreen" 123 8 0 := ⟨_, _, _, px_cf8, by decide, (px_in2 58 rfl rfl)⟩
theorem fr_9_133 : px_flr "NettleGreen" 133 2 5 := ⟨_, _, _, px_cf2, by decide, (px_in1 97 rfl rfl)⟩
theorem fr_9_136 : px_flr "NettleGreen" 136 2 6 := ⟨_, _, _, px_cf2, by decide, (px_in1 102 rfl rfl)⟩
theorem fr_9_139 : px_flr "NettleGreen" 139 2 7 := ⟨_, _, _, px_cf2, by decide, (px_in1 106 rfl rfl)⟩
theorem fr_9_148 : px_flr "NettleGreen" 148 2 9 := ⟨_, _, _, px_cf2, by decide, (px_in1 112 rfl rfl)⟩
theorem fr_9_151 : px_flr "NettleGreen" 151 2 10 := ⟨_, _, _, px_cf2, by decide, (px_in1 115 rfl rfl)⟩
theorem fr_9_154 : px_flr "NettleGreen" 154 2 11 := ⟨_, _, _, px_cf2, by decide, (px_in1 120 rfl rfl)⟩
theorem fr_9_160 : px_flr "NettleGreen" 160 2 15 := ⟨_, _, _, px_cf2, by decide, (px_in1 133 rfl rfl)⟩
theorem fr_9_164 : px_flr "NettleGreen" 164 8 3 := ⟨_, _, _, px_cf8, by decide, (px_in2 70 rfl rfl)⟩
theorem fl_9_164 : px_fl "NettleGreen" 164 8 3 false := ⟨_, _, _, px_cf8, by decide, (px_in2 70 rfl rfl), rfl, by decide⟩
theorem fr_9_240 : px_flr "NettleGreen" 240 8 2 := ⟨_, _, _, px_cf8, by decide, (px_in2 67 rfl rfl)⟩
theorem fl_9_240 : px_fl "NettleGreen" 240 8 2 false := ⟨_, _, _, px_cf8, by decide, (px_in2 67 rfl rfl), rfl, by decide⟩
theorem fr_9_269 : px_flr "NettleGreen" 269 2 4 := ⟨_, _, _, px_cf2, by decide, (px_in1 93 rfl rfl)⟩
theorem fl_9_269 : px_fl "NettleGreen" 269 2 4 false := ⟨_, _, _, px_cf2, by decide, (px_in1 93 rfl rfl), rfl, by decide⟩
theorem fr_9_283 : px_flr "NettleGreen" 283 2 8 := ⟨_, _, _, px_cf2, by decide, (px_in1 109 rfl rfl)⟩
theorem fl_9_283 : px_fl "NettleGreen" 283 2 8 false := ⟨_, _, _, px_cf2, by decide, (px_in1 109 rfl rfl), rfl, by decide⟩
theorem fr_9_292 : px_flr "NettleGreen" 292 2 13 := ⟨_, _, _, px_cf2, by decide, (px_in1 127 rfl rfl)⟩
theorem fl_9_292 : px_fl "NettleGreen" 292 2 13 false := ⟨_, _, _, px_cf2, by decide, (px_in1 127 rfl rfl), rfl, by decide⟩
theorem fr_9_327 : px_flr "NettleGreen" 327 8 4 := ⟨_, _, _, px_cf8, by decide, (px_in2 74 rfl rfl)⟩
theorem fl_9_327 : px_fl "NettleGreen" 327 8 4 false := ⟨_, _, _, px_cf8, by decide, (px_in2 74 rfl rfl), rfl, by decide⟩
theorem fr_9_336 : px_flr "NettleGreen" 336 7 10 := ⟨_, _, _, px_cf7, by decide, (px_in2 154 rfl rfl)⟩
theorem fl_9_336 : px_fl "NettleGreen" 336 7 10 false := ⟨_, _, _, px_cf7, by decide, (px_in2 154 rfl rfl), rfl, by decide⟩
theorem fr_9_339 : px_flr "NettleGreen" 339 7 11 := ⟨_, _, _, px_cf7, by decide, (px_in2 156 rfl rfl)⟩
theorem fl_9_339 : px_fl "NettleGreen" 339 7 11 false := ⟨_, _, _, px_cf7, by decide, (px_in2 156 rfl rfl), rfl, by decide⟩
theorem fr_9_342 : px_flr "NettleGreen" 342 1 3 := ⟨_, _, _, px_cf1, by decide, (px_in1 46 rfl rfl)⟩
theorem fl_9_342 : px_fl "NettleGreen" 342 1 3 false := ⟨_, _, _, px_cf1, by decide, (px_in1 46 rfl rfl), rfl, by decide⟩
theorem fr_9_345 : px_flr "NettleGreen" 345 2 12 := ⟨_, _, _, px_cf2, by decide, (px_in1 124 rfl rfl)⟩
theorem fl_9_345 : px_fl "NettleGreen" 345 2 12 false := ⟨_, _, _, px_cf2, by decide, (px_in1 124 rfl rfl), rfl, by decide⟩
theorem fr_9_348 : px_flr "NettleGreen" 348 4 2 := ⟨_, _, _, px_cf4, by decide, (px_in2 113 rfl rfl)⟩
theorem fl_9_348 : px_fl "NettleGreen" 348 4 2 false := ⟨_, _, _, px_cf4, by decide, (px_in2 113 rfl rfl), rfl, by decide⟩
theorem fr_9_350 : px_flr "NettleGreen" 350 4 3 := ⟨_, _, _, px_cf4, by decide, (px_in2 115 rfl rfl)⟩
theorem fl_9_350 : px_fl "NettleGreen" 350 4 3 false := ⟨_, _, _, px_cf4, by decide, (px_in2 115 rfl rfl), rfl, by decide⟩
theorem fr_0_9 : px_flr "NettleGreen$Circle" 9 0 0 := ⟨_, _, _, px_cf0, by decide, (px_in2 131 rfl rfl)⟩
theorem fl_0_9 : px_fl "NettleGreen$Circle" 9 0 0 true := ⟨_, _, _, px_cf0, by decide, (px_in2 131 rfl rfl), rfl, by decide⟩
theorem fr_0_15 : px_flr "NettleGreen$Circle" 15 2 4 := ⟨_, _, _, px_cf2, by decide, (px_in1 90 rfl rfl)⟩
theorem fl_0_15 : px_fl "NettleGreen$Circle" 15 2 4 false := ⟨_, _, _, px_cf2, by decide, (px_in1 90 rfl rfl), rfl, by decide⟩
theorem fr_0_21 : px_flr "NettleGreen$Circle" 21 2 5 := ⟨_, _, _, px_cf2, by decide, (px_in1 95 rfl rfl)⟩
theorem fr_0_24 : px_flr "NettleGreen$Circle" 24 2 6 := ⟨_, _, _, px_cf2, by decide, (px_in1 100 rfl rfl)⟩
theorem fr_0_27 : px_flr "NettleGreen$Circle" 27 2 0 := ⟨_, _, _, px_cf2, by decide, (px_in1 75 rfl rfl)⟩
theorem fl_0_27 : px_fl "NettleGreen$Circle" 27 2 0 false := ⟨_, _, _, px_cf2, by decide, (px_in1 75 rfl rfl), rfl, by decide⟩
theorem fr_1_11 : px_flr "NettleGreen$Formula" 11 1 0 := ⟨_, _, _, px_cf1, by decide, (px_in1 41 rfl rfl)⟩
theorem fl_1_11 : px_fl "NettleGreen$Formula" 11 1 0 true := ⟨_, _, _, px_cf1, by decide, (px_in1 41 rfl rfl), rfl, by decide⟩
theorem fr_1_15 : px_flr "NettleGreen$Formula" 15 1 1 := ⟨_, _, _, px_cf1, by decide, (px_in1 42 rfl rfl)⟩
theorem fl_1_15 : px_fl "NettleGreen$Formula" 15 1 1 true := ⟨_, _, _, px_cf1, by decide, (px_in1 42 rfl rfl), rfl, by decide⟩
theorem fr_1_18 : px_flr "NettleGreen$Formula" 18 1 2 := ⟨_, _, _, px_cf1, by decide, (px_in1 43 rfl rfl)⟩
theorem fl_1_18 : px_fl "NettleGreen$Formula" 18 1 2 false := ⟨_, _, _, px_cf1, by decide, (px_in1 43 rfl rfl), rfl, by decide⟩
theorem fr_1_22 : px_flr "NettleGreen$Formula" 22 1 3 := ⟨_, _, _, px_cf1, by decide, (px_in1 44 rfl rfl)⟩
theorem fl_1_22 : px_fl "NettleGreen$Formula" 22 1 3 false := ⟨_, _, _, px_cf1, by decide, (px_in1 44 rfl rfl), rfl, by decide⟩
theorem fr_2_9 : px_flr "NettleGreen$Hamlet" 9 2 1 := ⟨_, _, _, px_cf2, by decide, (px_in1 80 rfl rfl)⟩
theorem fl_2_9 : px_fl "NettleGreen$Hamlet" 9 2 1 true := ⟨_, _, _, px_cf2, by decide, (px_in1 80 rfl rfl), rfl, by decide⟩
theorem fr_2_15 : px_flr "NettleGreen$Hamlet" 15 2 2 := ⟨_, _, _, px_cf2, by decide, (px_in1 83 rfl rfl)⟩
theorem fl_2_15 : px_fl "NettleGreen$Hamlet" 15 2 2 true := ⟨_, _, _, px_cf2, by decide, (px_in1 83 rfl rfl), rfl, by decide⟩
theorem fr_2_18 : px_flr "NettleGreen$Hamlet" 18 2 3 := ⟨_, _, _, px_cf2, by decide, (px_in1 86 rfl rfl)⟩
theorem fl_2_18 : px_fl "NettleGreen$Hamlet" 18 2 3 true := ⟨_, _, _, px_cf2, by decide, (px_in1 86 rfl rfl), rfl, by decide⟩
theorem fr_2_21 : px_flr "NettleGreen$Hamlet" 21 2 5 := ⟨_, _, _, px_cf2, by decide, (px_in1 94 rfl rfl)⟩
theorem fl_2_21 : px_fl "NettleGreen$Hamlet" 21 2 5 true := ⟨_, _, _, px_cf2, by decide, (px_in1 94 rfl rfl), rfl, by decide⟩
theorem fr_2_24 : px_flr "NettleGreen$Hamlet" 24 2 6 := ⟨_, _, _, px_cf2, by decide, (px_in1 99 rfl rfl)⟩
theorem fl_2_24 : px_fl "NettleGreen$Hamlet" 24 2 6 true := ⟨_, _, _, px_cf2, by decide, (px_in1 99 rfl rfl), rfl, by decide⟩
theorem fr_2_27 : px_flr "NettleGreen$Hamlet" 27 2 7 := ⟨_, _, _, px_cf2, by decide, (px_in1 104 rfl rfl)⟩
theorem fl_2_27 : px_fl "NettleGreen$Hamlet" 27 2 7 true := ⟨_, _, _, px_cf2, by decide, (px_in1 104 rfl rfl), rfl, by decide⟩
theorem fr_2_30 : px_flr "NettleGreen$Hamlet" 30 2 9 := ⟨_, _, _, px_cf2, by decide, (px_in1 110 rfl rfl)⟩
theorem fl_2_30 : px_fl "NettleGreen$Hamlet" 30 2 9 true := ⟨_, _, _, px_cf2, by decide, (px_in1 110 rfl rfl), rfl, by decide⟩
theorem fr_2_33 : px_flr "NettleGreen$Hamlet" 33 2 10 := ⟨_, _, _, px_cf2, by decide, (px_in1 113 rfl rfl)⟩
theorem fl_2_33 : px_fl "NettleGreen$Hamlet" 33 2 10 true := ⟨_, _, _, px_cf2, by decide, (px_in1 113 rfl rfl), rfl, by decide⟩
theorem fr_2_36 : px_flr "NettleGreen$Hamlet" 36 2 11 := ⟨_, _, _, px_cf2, by decide, (px_in1 117 rfl rfl)⟩
theorem fl_2_36 : px_fl "NettleGreen$Hamlet" 36 2 11 true := ⟨_, _, _, px_cf2, by decide, (px_in1 117 rfl rfl), rfl, by decide⟩
theorem fr_2_42 : px_flr "NettleGreen$Hamlet" 42 2 15 := ⟨_, _, _, px_cf2, by decide, (px_in1 131 rfl rfl)⟩
theorem fl_2_42 : px_fl "NettleGreen$Hamlet" 42 2 15 true := ⟨_, _, _, px_cf2, by decide, (px_in1 131 rfl rfl), rfl, by decide⟩
theorem fr_2_49 : px_flr "NettleGreen$Hamlet" 49 2 0 := ⟨_, _, _, px_cf2, by decide, (px_in1 74 rfl rfl)⟩
theorem fl_2_49 : px_fl "NettleGreen$Hamlet" 49 2 0 false := ⟨_, _, _, px_cf2, by decide, (px_in1 74 rfl rfl), rfl, by decide⟩
theorem fr_2_53 : px_flr "NettleGreen$Hamlet" 53 2 4 := ⟨_, _, _, px_cf2, by decide, (px_in1 89 rfl rfl)⟩
theorem fl_2_53 : px_fl "NettleGreen$Hamlet" 53 2 4 false := ⟨_, _, _, px_cf2, by decide, (px_in1 89 rfl rfl), rfl, by decide⟩
theorem fr_2_56 : px_flr "NettleGreen$Hamlet" 56 2 8 := ⟨_, _, _, px_cf2, by decide, (px_in1 107 rfl rfl)⟩
theorem fl_2_56 : px_fl "NettleGreen$Hamlet" 56 2 8 false := ⟨_, _, _, px_cf2, by decide, (px_in1 107 rfl rfl), rfl, by decide⟩
theorem fr_2_59 : px_flr "NettleGreen$Hamlet" 59 2 12 := ⟨_, _, _, px_cf2, by decide, (px_in1 122 rfl rfl)⟩
theorem fl_2_59 : px_fl "NettleGreen$Hamlet" 59 2 12 false := ⟨_, _, _, px_cf2, by decide, (px_in1 122 rfl rfl), rfl, by decide⟩
theorem fr_2_62 : px_flr "NettleGreen$Hamlet" 62 2 13 := ⟨_, _, _, px_cf2, by decide, (px_in1 125 rfl rfl)⟩
theorem fl_2_62 : px_fl "NettleGreen$Hamlet" 62 2 13 false := ⟨_, _, _, px_cf2, by decide, (px_in1 125 rfl rfl), rfl, by decide⟩
theorem fr_2_65 : px_flr "NettleGreen$Hamlet" 65 2 14 := ⟨_, _, _, px_cf2, by decide, (px_in1 128 rfl rfl)⟩
theorem fl_2_65 : px_fl "NettleGreen$Hamlet" 65 2 14 false := ⟨_, _, _, px_cf2, by decide, (px_in1 128 rfl rfl), rfl, by decide⟩
theorem fr_2_71 : px_flr "NettleGreen$Hamlet" 71 8 0 := ⟨_, _, _, px_cf8, by decide, (px_in2 57 rfl rfl)⟩
theorem fr_2_78 : px_flr "NettleGreen$Hamlet" 78 8 1 := ⟨_, _, _, px_cf8, by decide, (px_in2 63 rfl rfl)⟩
theorem fr_2_79 : px_flr "NettleGreen$Hamlet" 79 8 3 := ⟨_, _, _, px_cf8, by decide, (px_in2 69 rfl rfl)⟩
theorem fl_2_79 : px_fl "NettleGreen$Hamlet" 79 8 3 false := ⟨_, _, _, px_cf8, by decide, (px_in2 69 rfl rfl), rfl, by decide⟩
theorem fr_2_113 : px_flr "NettleGreen$Hamlet" 113 8 4 := ⟨_, _, _, px_cf8, by decide, (px_in2 73 rfl rfl)⟩
theorem fl_2_113 : px_fl "NettleGreen$Hamlet" 113 8 4 false := ⟨_, _, _, px_cf8, by decide, (px_in2 73 rfl rfl), rfl, by decide⟩
theorem fr_3_11 : px_flr "NettleGreen$Ledger" 11 3 0 := ⟨_, _, _, px_cf3, by decide, (px_in2 92 rfl rfl)⟩
theorem fl_3_11 : px_fl "NettleGreen$Ledger" 11 3 0 true := ⟨_, _, _, px_cf3, by decide, (px_in2 92 rfl rfl), rfl, by decide⟩
theorem fr_3_15 : px_flr "NettleGreen$Ledger" 15 3 1 := ⟨_, _, _, px_cf3, by decide, (px_in2 93 rfl rfl)⟩
theorem fl_3_15 : px_fl "NettleGreen$Ledger" 15 3 1 false := ⟨_, _, _, px_cf3, by decide, (px_in2 93 rfl rfl), rfl, by decide⟩
theorem fr_3_19 : px_flr "NettleGreen$Ledger" 19 3 2 := ⟨_, _, _, px_cf3, by decide, (px_in2 94 rfl rfl)⟩
theorem fl_3_19 : px_fl "NettleGreen$Ledger" 19 3 2 false := ⟨_, _, _, px_cf3, by decide, (px_in2 94 rfl rfl), rfl, by decide⟩
theorem fr_4_12 : px_flr "NettleGreen$Outlook" 12 4 0 := ⟨_, _, _, px_cf4, by decide, (px_in2 110 rfl rfl)⟩
theorem fl_4_12 : px_fl "NettleGreen$Outlook" 12 4 0 true := ⟨_, _, _, px_cf4, by decide, (px_in2 110 rfl rfl), rfl, by decide⟩
theorem fr_4_18 : px_flr "NettleGreen$Outlook" 18 4 1 := ⟨_, _, _, px_cf4, by decide, (px_in2 111 rfl rfl)⟩
theorem fl_4_18 : px_fl "NettleGreen$Outlook" 18 4 1 true := ⟨_, _, _, px_cf4, by decide, (px_in2 111 rfl rfl), rfl, by decide⟩
theorem fr_4_26 : px_flr "NettleGreen$Outlook" 26 2 11 := ⟨_, _, _, px_cf2, by decide, (px_in1 118 rfl rfl)⟩
theorem fr_4_35 : px_flr "NettleGreen$Outlook" 35 8 0 := ⟨_, _, _, px_cf8, by decide, (px_in2 56 rfl rfl)⟩
theorem fr_4_42 : px_flr "NettleGreen$Outlook" 42 8 1 := ⟨_, _, _, px_cf8, by decide, (px_in2 61 rfl rfl)⟩
theorem fr_4_49 : px_flr "NettleGreen$Outlook" 49 2 4 := ⟨_, _, _, px_cf2, by decide, (px_in1 92 rfl rfl)⟩
theorem fl_4_49 : px_fl "NettleGreen$Outlook" 49 2 4 false := ⟨_, _, _, px_cf2, by decide, (px_in1 92 rfl rfl), rfl, by decide⟩
theorem fr_4_59 : px_flr "NettleGreen$Outlook" 59 8 2 := ⟨_, _, _, px_cf8, by decide, (px_in2 66 rfl rfl)⟩
theorem fl_4_59 : px_fl "NettleGreen$Outlook" 59 8 2 false := ⟨_, _, _, px_cf8, by decide, (px_in2 66 rfl rfl), rfl, by decide⟩
theorem fr_4_66 : px_flr "NettleGreen$Outlook" 66 2 10 := ⟨_, _, _, px_cf2, by decide, (px_in1 114 rfl rfl)⟩
theorem fr_4_90 : px_flr "NettleGreen$Outlook" 90 4 2 := ⟨_, _, _, px_cf4, by decide, (px_in2 112 rfl rfl)⟩
theorem fl_4_90 : px_fl "NettleGreen$Outlook" 90 4 2 false := ⟨_, _, _, px_cf4, by decide, (px_in2 112 rfl rfl), rfl, by decide⟩
theorem fr_4_93 : px_flr "NettleGreen$Outlook" 93 2 0 := ⟨_, _, _, px_cf2, by decide, (px_in1 79 rfl rfl)⟩
theorem fl_4_93 : px_fl "NettleGreen$Outlook" 93 2 0 false := ⟨_, _, _, px_cf2, by decide, (px_in1 79 rfl rfl), rfl, by decide⟩
theorem fr_4_99 : px_flr "NettleGreen$Outlook" 99 2 5 := ⟨_, _, _, px_cf2, by decide, (px_in1 98 rfl rfl)⟩
theorem fr_4_102 : px_flr "NettleGreen$Outlook" 102 2 6 := ⟨_, _, _, px_cf2, by decide, (px_in1 103 rfl rfl)⟩
theorem fr_4_123 : px_flr "NettleGreen$Outlook" 123 2 15 := ⟨_, _, _, px_cf2, by decide, (px_in1 134 rfl rfl)⟩
theorem fr_4_127 : px_flr "NettleGreen$Outlook" 127 8 3 := ⟨_, _, _, px_cf8, by decide, (px_in2 71 rfl rfl)⟩
theorem fl_4_127 : px_fl "NettleGreen$Outlook" 127 8 3 false := ⟨_, _, _, px_cf8, by decide, (px_in2 71 rfl rfl), rfl, by decide⟩
theorem fr_4_142 : px_flr "NettleGreen$Outlook" 142 4 3 := ⟨_, _, _, px_cf4, by decide, (px_in2 114 rfl rfl)⟩
theorem fl_4_142 : px_fl "NettleGreen$Outlook" 142 4 3 false := ⟨_, _, _, px_cf4, by decide, (px_in2 114 rfl rfl), rfl, by decide⟩
theorem fr_5_12 : px_flr "NettleGreen$Parser" 12 5 0 := ⟨_, _, _, px_cf5, by decide, (px_in2 25 rfl rfl)⟩
theorem fl_5_12 : px_fl "NettleGreen$Parser" 12 5 0 true := ⟨_, _, _, px_cf5, by decide, (px_in2 25 rfl rfl), rfl, by decide⟩
theorem fr_5_18 : px_flr "NettleGreen$Parser" 18 5 1 := ⟨_, _, _, px_cf5, by decide, (px_in2 26 rfl rfl)⟩
theorem fl_5_18 : px_fl "NettleGreen$Parser" 18 5 1 true := ⟨_, _, _, px_cf5, by decide, (px_in2 26 rfl rfl), rfl, by decide⟩
theorem fr_5_22 : px_flr "NettleGreen$Parser" 22 5 2 := ⟨_, _, _, px_cf5, by decide, (px_in2 27 rfl rfl)⟩
theorem fl_5_22 : px_fl "NettleGreen$Parser" 22 5 2 true := ⟨_, _, _, px_cf5, by decide, (px_in2 27 rfl rfl), rfl, by decide⟩
theorem fr_5_28 : px_flr "NettleGreen$Parser" 28 5 3 := ⟨_, _, _, px_cf5, by decide, (px_in2 28 rfl rfl)⟩
theorem fl_5_28 : px_fl "NettleGreen$Parser" 28 5 3 false := ⟨_, _, _, px_cf5, by decide, (px_in2 28 rfl rfl), rfl, by decide⟩
theorem fr_5_35 : px_flr "NettleGreen$Parser" 35 5 4 := ⟨_, _, _, px_cf5, by decide, (px_in2 29 rfl rfl)⟩
theorem fl_5_35 : px_fl "NettleGreen$Parser" 35 5 4 false := ⟨_, _, _, px_cf5, by decide, (px_in2 29 rfl rfl), rfl, by decide⟩
theorem fr_5_39 : px_flr "NettleGreen$Parser" 39 5 5 := ⟨_, _, _, px_cf5, by decide, (px_in2 30 rfl rfl)⟩
theorem fl_5_39 : px_fl "NettleGreen$Parser" 39 5 5 false := ⟨_, _, _, px_cf5, by decide, (px_in2 30 rfl rfl), rfl, by decide⟩
theorem fr_5_42 : px_flr "NettleGreen$Parser" 42 5 6 := ⟨_, _, _, px_cf5, by decide, (px_in2 32 rfl rfl)⟩
theorem fl_5_42 : px_fl "NettleGreen$Parser" 42 5 6 false := ⟨_, _, _, px_cf5, by decide, (px_in2 32 rfl rfl), rfl, by decide⟩
theorem fr_5_49 : px_flr "NettleGreen$Parser" 49 6 4 := ⟨_, _, _, px_cf6, by decide, (px_in1 237 rfl rfl)⟩
theorem fl_5_49 : px_fl "NettleGreen$Parser" 49 6 4 false := ⟨_, _, _, px_cf6, by decide, (px_in1 237 rfl rfl), rfl, by decide⟩
theorem fr_5_59 : px_flr "NettleGreen$Parser" 59 6 5 := ⟨_, _, _, px_cf6, by decide, (px_in2 0 rfl rfl)⟩
theorem fl_5_59 : px_fl "NettleGreen$Parser" 59 6 5 false := ⟨_, _, _, px_cf6, by decide, (px_in2 0 rfl rfl), rfl, by decide⟩
theorem fr_5_78 : px_flr "NettleGreen$Parser" 78 2 12 := ⟨_, _, _, px_cf2, by decide, (px_in1 123 rfl rfl)⟩
theorem fl_5_78 : px_fl "NettleGreen$Parser" 78 2 12 false := ⟨_, _, _, px_cf2, by decide, (px_in1 123 rfl rfl), rfl, by decide⟩
theorem fr_5_81 : px_flr "NettleGreen$Parser" 81 2 13 := ⟨_, _, _, px_cf2, by decide, (px_in1 126 rfl rfl)⟩
theorem fl_5_81 : px_fl "NettleGreen$Parser" 81 2 13 false := ⟨_, _, _, px_cf2, by decide, (px_in1 126 rfl rfl), rfl, by decide⟩
theorem fr_5_84 : px_flr "NettleGreen$Parser" 84 2 14 := ⟨_, _, _, px_cf2, by decide, (px_in1 130 rfl rfl)⟩
theorem fl_5_84 : px_fl "NettleGreen$Parser" 84 2 14 false := ⟨_, _, _, px_cf2, by decide, (px_in1 130 rfl rfl), rfl, by decide⟩
theorem fr_5_87 : px_flr "NettleGreen$Parser" 87 2 0 := ⟨_, _, _, px_cf2, by decide, (px_in1 77 rfl rfl)⟩
theorem fl_5_87 : px_fl "NettleGreen$Parser" 87 2 0 false := ⟨_, _, _, px_cf2, by decide, (px_in1 77 rfl rfl), rfl, by decide⟩
theorem fr_5_97 : px_flr "NettleGreen$Parser" 97 2 1 := ⟨_, _, _, px_cf2, by decide, (px_in1 82 rfl rfl)⟩
theorem fr_5_104 : px_flr "NettleGreen$Parser" 104 2 2 := ⟨_, _, _, px_cf2, by decide, (px_in1 84 rfl rfl)⟩
theorem fr_5_111 : px_flr "NettleGreen$Parser" 111 2 3 := ⟨_, _, _, px_cf2, by decide, (px_in1 88 rfl rfl)⟩
theorem fr_5_117 : px_flr "NettleGreen$Parser" 117 2 4 := ⟨_, _, _, px_cf2, by decide, (px_in1 91 rfl rfl)⟩
theorem fl_5_117 : px_fl "NettleGreen$Parser" 117 2 4 false := ⟨_, _, _, px_cf2, by decide, (px_in1 91 rfl rfl), rfl, by decide⟩
theorem fr_5_124 : px_flr "NettleGreen$Parser" 124 2 5 := ⟨_, _, _, px_cf2, by decide, (px_in1 96 rfl rfl)⟩
theorem fr_5_127 : px_flr "NettleGreen$Parser" 127 2 6 := ⟨_, _, _, px_cf2, by decide, (px_in1 101 rfl rfl)⟩
theorem fr_5_130 : px_flr "NettleGreen$Parser" 130 2 7 := ⟨_, _, _, px_cf2, by decide, (px_in1 105 rfl rfl)⟩
theorem fr_5_133 : px_flr "NettleGreen$Parser" 133 2 8 := ⟨_, _, _, px_cf2, by decide, (px_in1 108 rfl rfl)⟩
theorem fl_5_133 : px_fl "NettleGreen$Parser" 133 2 8 false := ⟨_, _, _, px_cf2, by decide, (px_in1 108 rfl rfl), rfl, by decide⟩
theorem fr_5_136 : px_flr "NettleGreen$Parser" 136 2 9 := ⟨_, _, _, px_cf2, by decide, (px_in1 111 rfl rfl)⟩
theorem fr_5_145 : px_flr "NettleGreen$Parser" 145 2 11 := ⟨_, _, _, px_cf2, by decide, (px_in1 119 rfl rfl)⟩
theorem fr_5_148 : px_flr "NettleGreen$Parser" 148 2 10 := ⟨_, _, _, px_cf2, by decide, (px_in1 116 rfl rfl)⟩
theorem fr_5_154 : px_flr "NettleGreen$Parser" 154 2 15 := ⟨_, _, _, px_cf2, by decide, (px_in1 132 rfl rfl)⟩
theorem fr_5_186 : px_flr "NettleGreen$Parser" 186 1 3 := ⟨_, _, _, px_cf1, by decide, (px_in1 45 rfl rfl)⟩
theorem fl_5_186 : px_fl "NettleGreen$Parser" 186 1 3 false := ⟨_, _, _, px_cf1, by decide, (px_in1 45 rfl rfl), rfl, by decide⟩
theorem fr_5_196 : px_flr "NettleGreen$Parser" 196 6 6 := ⟨_, _, _, px_cf6, by decide, (px_in2 2 rfl rfl)⟩
theorem fl_5_196 : px_fl "NettleGreen$Parser" 196 6 6 false := ⟨_, _, _, px_cf6, by decide, (px_in2 2 rfl rfl), rfl, by decide⟩
theorem fr_5_200 : px_flr "NettleGreen$Parser" 200 6 7 := ⟨_, _, _, px_cf6, by decide, (px_in2 4 rfl rfl)⟩
theorem fl_5_200 : px_fl "NettleGreen$Parser" 200 6 7 false := ⟨_, _, _, px_cf6, by decide, (px_in2 4 rfl rfl), rfl, by decide⟩
theorem fr_6_9 : px_flr "NettleGreen$Scanner" 9 6 0 := ⟨_, _, _, px_cf6, by decide, (px_in1 233 rfl rfl)⟩
theorem fl_6_9 : px_fl "NettleGreen$Scanner" 9 6 0 true := ⟨_, _, _, px_cf6, by decide, (px_in1 233 rfl rfl), rfl, by decide⟩
theorem fr_6_13 : px_flr "NettleGreen$Scanner" 13 6 1 := ⟨_, _, _, px_cf6, by decide, (px_in1 234 rfl rfl)⟩
theorem fl_6_13 : px_fl "NettleGreen$Scanner" 13 6 1 false := ⟨_, _, _, px_cf6, by decide, (px_in1 234 rfl rfl), rfl, by decide⟩
theorem fr_6_39 : px_flr "NettleGreen$Scanner" 39 6 2 := ⟨_, _, _, px_cf6, by decide, (px_in1 235 rfl rfl)⟩
theorem fl_6_39 : px_fl "NettleGreen$Scanner" 39 6 2 false := ⟨_, _, _, px_cf6, by decide, (px_in1 235 rfl rfl), rfl, by decide⟩
theorem fr_6_42 : px_flr "NettleGreen$Scanner" 42 6 3 := ⟨_, _, _, px_cf6, by decide, (px_in1 236 rfl rfl)⟩
theorem fl_6_42 : px_fl "NettleGreen$Scanner" 42 6 3 false := ⟨_, _, _, px_cf6, by decide, (px_in1 236 rfl rfl), rfl, by decide⟩
theorem fr_6_48 : px_flr "NettleGreen$Scanner" 48 6 7 := ⟨_, _, _, px_cf6, by decide, (px_in2 3 rfl rfl)⟩
theorem fl_6_48 : px_fl "NettleGreen$Scanner" 48 6 7 false := ⟨_, _, _, px_cf6, by decide, (px_in2 3 rfl rfl), rfl, by decide⟩
theorem fr_6_51 : px_flr "NettleGreen$Scanner" 51 6 6 := ⟨_, _, _, px_cf6, by decide, (px_in2 1 rfl rfl)⟩
theorem fl_6_51 : px_fl "NettleGreen$Scanner" 51 6 6 false := ⟨_, _, _, px_cf6, by decide, (px_in2 1 rfl rfl), rfl, by decide⟩
theorem fr_6_58 : px_flr "NettleGreen$Scanner" 58 6 5 := ⟨_, _, _, px_cf6, by decide, (px_in1 239 rfl rfl)⟩
theorem fl_6_58 : px_fl "NettleGreen$Scanner" 58 6 5 false := ⟨_, _, _, px_cf6, by decide, (px_in1 239 rfl rfl), rfl, by decide⟩
theorem fr_6_67 : px_flr "NettleGreen$Scanner" 67 6 4 := ⟨_, _, _, px_cf6, by decide, (px_in1 238 rfl rfl)⟩
theorem fl_6_67 : px_fl "NettleGreen$Scanner" 67 6 4 false := ⟨_, _, _, px_cf6, by decide, (px_in1 238 rfl rfl), rfl, by decide⟩
theorem fr_7_11 : px_flr "NettleGreen$Sightings" 11 7 0 := ⟨_, _, _, px_cf7, by decide, (px_in2 143 rfl rfl)⟩
theorem fl_7_11 : px_fl "NettleGreen$Sightings" 11 7 0 true := ⟨_, _, _, px_cf7, by decide, (px_in2 143 rfl rfl), rfl, by decide⟩
theorem fr_7_15 : px_flr "NettleGreen$Sightings" 15 7 1 := ⟨_, _, _, px_cf7, by decide, (px_in2 144 rfl rfl)⟩
theorem fl_7_15 : px_fl "NettleGreen$Sightings" 15 7 1 true := ⟨_, _, _, px_cf7, by decide, (px_in2 144 rfl rfl), rfl, by decide⟩
theorem fr_7_18 : px_flr "NettleGreen$Sightings" 18 7 2 := ⟨_, _, _, px_cf7, by decide, (px_in2 145 rfl rfl)⟩
theorem fl_7_18 : px_fl "NettleGreen$Sightings" 18 7 2 true := ⟨_, _, _, px_cf7, by decide, (px_in2 145 rfl rfl), rfl, by decide⟩
theorem fr_7_21 : px_flr "NettleGreen$Sightings" 21 7 3 := ⟨_, _, _, px_cf7, by decide, (px_in2 146 rfl rfl)⟩
theorem fl_7_21 : px_fl "NettleGreen$Sightings" 21 7 3 true := ⟨_, _, _, px_cf7, by decide, (px_in2 146 rfl rfl), rfl, by decide⟩
theorem fr_7_25 : px_flr "NettleGreen$Sightings" 25 7 4 := ⟨_, _, _, px_cf7, by decide, (px_in2 147 rfl rfl)⟩
theorem fl_7_25 : px_fl "NettleGreen$Sightings" 25 7 4 true := ⟨_, _, _, px_cf7, by decide, (px_in2 147 rfl rfl), rfl, by decide⟩
theorem fr_7_28 : px_flr "NettleGreen$Sightings" 28 7 5 := ⟨_, _, _, px_cf7, by decide, (px_in2 148 rfl rfl)⟩
theorem fl_7_28 : px_fl "NettleGreen$Sightings" 28 7 5 true := ⟨_, _, _, px_cf7, by decide, (px_in2 148 rfl rfl), rfl, by decide⟩
theorem fr_7_31 : px_flr "NettleGreen$Sightings" 31 7 6 := ⟨_, _, _, px_cf7, by decide, (px_in2 149 rfl rfl)⟩
theorem fl_7_31 : px_fl "NettleGreen$Sightings" 31 7 6 true := ⟨_, _, _, px_cf7, by decide, (px_in2 149 rfl rfl), rfl, by decide⟩
theorem fr_7_35 : px_flr "NettleGreen$Sightings" 35 7 8 := ⟨_, _, _, px_cf7, by decide, (px_in2 151 rfl rfl)⟩
theorem fl_7_35 : px_fl "NettleGreen$Sightings" 35 7 8 true := ⟨_, _, _, px_cf7, by decide, (px_in2 151 rfl rfl), rfl, by decide⟩
theorem fr_7_41 : px_flr "NettleGreen$Sightings" 41 7 9 := ⟨_, _, _, px_cf7, by decide, (px_in2 152 rfl rfl)⟩
theorem fl_7_41 : px_fl "NettleGreen$Sightings" 41 7 9 true := ⟨_, _, _, px_cf7, by decide, (px_in2 152 rfl rfl), rfl, by decide⟩
theorem fr_7_45 : px_flr "NettleGreen$Sightings" 45 7 10 := ⟨_, _, _, px_cf7, by decide, (px_in2 153 rfl rfl)⟩
theorem fl_7_45 : px_fl "NettleGreen$Sightings" 45 7 10 false := ⟨_, _, _, px_cf7, by decide, (px_in2 153 rfl rfl), rfl, by decide⟩
theorem fr_7_49 : px_flr "NettleGreen$Sightings" 49 7 7 := ⟨_, _, _, px_cf7, by decide, (px_in2 150 rfl rfl)⟩
theorem fl_7_49 : px_fl "NettleGreen$Sightings" 49 7 7 false := ⟨_, _, _, px_cf7, by decide, (px_in2 150 rfl rfl), rfl, by decide⟩
theorem fr_7_53 : px_flr "NettleGreen$Sightings" 53 7 11 := ⟨_, _, _, px_cf7, by decide, (px_in2 155 rfl rfl)⟩
theorem fl_7_53 : px_fl "NettleGreen$Sightings" 53 7 11 false := ⟨_, _, _, px_cf7, by decide, (px_in2 155 rfl rfl), rfl, by decide⟩
theorem fr_7_57 : px_flr "NettleGreen$Sightings" 57 2 0 := ⟨_, _, _, px_cf2, by decide, (px_in1 78 rfl rfl)⟩
theorem fl_7_57 : px_fl "NettleGreen$Sightings" 57 2 0 false := ⟨_, _, _, px_cf2, by decide, (px_in1 78 rfl rfl), rfl, by decide⟩
theorem fr_7_92 : px_flr "NettleGreen$Sightings" 92 8 1 := ⟨_, _, _, px_cf8, by decide, (px_in2 64 rfl rfl)⟩
theorem fr_7_95 : px_flr "NettleGreen$Sightings" 95 8 0 := ⟨_, _, _, px_cf8, by decide, (px_in2 59 rfl rfl)⟩
theorem fr_7_98 : px_flr "NettleGreen$Sightings" 98 2 11 := ⟨_, _, _, px_cf2, by decide, (px_in1 121 rfl rfl)⟩
theorem fr_8_9 : px_flr "NettleGreen$State" 9 8 0 := ⟨_, _, _, px_cf8, by decide, (px_in2 55 rfl rfl)⟩
theorem fl_8_9 : px_fl "NettleGreen$State" 9 8 0 true := ⟨_, _, _, px_cf8, by decide, (px_in2 55 rfl rfl), rfl, by decide⟩
theorem fr_8_15 : px_flr "NettleGreen$State" 15 8 1 := ⟨_, _, _, px_cf8, by decide, (px_in2 60 rfl rfl)⟩
theorem fl_8_15 : px_fl "NettleGreen$State" 15 8 1 true := ⟨_, _, _, px_cf8, by decide, (px_in2 60 rfl rfl), rfl, by decide⟩
theorem fr_8_18 : px_flr "NettleGreen$State" 18 2 3 := ⟨_, _, _, px_cf2, by decide, (px_in1 87 rfl rfl)⟩
theorem fr_8_27 : px_flr "NettleGreen$State" 27 2 1 := ⟨_, _, _, px_cf2, by decide, (px_in1 81 rfl rfl)⟩
theorem fr_8_28 : px_flr "NettleGreen$State" 28 8 2 := ⟨_, _, _, px_cf8, by decide, (px_in2 65 rfl rfl)⟩
theorem fl_8_28 : px_fl "NettleGreen$State" 28 8 2 false := ⟨_, _, _, px_cf8, by decide, (px_in2 65 rfl rfl), rfl, by decide⟩
theorem fr_8_32 : px_flr "NettleGreen$State" 32 8 3 := ⟨_, _, _, px_cf8, by decide, (px_in2 68 rfl rfl)⟩
theorem fl_8_32 : px_fl "NettleGreen$State" 32 8 3 false := ⟨_, _, _, px_cf8, by decide, (px_in2 68 rfl rfl), rfl, by decide⟩
theorem fr_8_35 : px_flr "NettleGreen$State" 35 2 14 := ⟨_, _, _, px_cf2, by decide, (px_in1 129 rfl rfl)⟩
theorem fl_8_35 : px_fl "NettleGreen$State" 35 2 14 false := ⟨_, _, _, px_cf2, by decide, (px_in1 129 rfl rfl), rfl, by decide⟩
theorem fr_8_38 : px_flr "NettleGreen$State" 38 8 4 := ⟨_, _, _, px_cf8, by decide, (px_in2 72 rfl rfl)⟩
theorem fl_8_38 : px_fl "NettleGreen$State" 38 8 4 false := ⟨_, _, _, px_cf8, by decide, (px_in2 72 rfl rfl), rfl, by decide⟩
theorem fr_10_7 : px_flr "NettleGreenModel" 7 10 0 := ⟨_, _, _, px_cf10, by decide, (px_in5 212 rfl rfl)⟩
theorem fl_10_7 : px_fl "NettleGreenModel" 7 10 0 true := ⟨_, _, _, px_cf10, by decide, (px_in5 212 rfl rfl), rfl, by decide⟩
theorem fr_10_13 : px_flr "NettleGreenModel" 13 10 3 := ⟨_, _, _, px_cf10, by decide, (px_in5 215 rfl rfl)⟩
theorem fl_10_13 : px_fl "NettleGreenModel" 13 10 3 false := ⟨_, _, _, px_cf10, by decide, (px_in5 215 rfl rfl), rfl, by decide⟩
theorem fr_10_17 : px_flr "NettleGreenModel" 17 10 10 := ⟨_, _, _, px_cf10, by decide, (px_in5 222 rfl rfl)⟩
theorem fl_10_17 : px_fl "NettleGreenModel" 17 10 10 true := ⟨_, _, _, px_cf10, by decide, (px_in5 222 rfl rfl), rfl, by decide⟩
theorem fr_10_21 : px_flr "NettleGreenModel" 21 10 11 := ⟨_, _, _, px_cf10, by decide, (px_in5 223 rfl rfl)⟩
theorem fl_10_21 : px_fl "NettleGreenModel" 21 10 11 true := ⟨_, _, _, px_cf10, by decide, (px_in5 223 rfl rfl), rfl, by decide⟩
theorem fr_10_24 : px_flr "NettleGreenModel" 24 10 12 := ⟨_, _, _, px_cf10, by decide, (px_in5 224 rfl rfl)⟩
theorem fl_10_24 : px_fl "NettleGreenModel" 24 10 12 true := ⟨_, _, _, px_cf10, by decide, (px_in5 224 rfl rfl), rfl, by decide⟩
theorem fr_10_27 : px_flr "NettleGreenModel" 27 10 13 := ⟨_, _, _, px_cf10, by decide, (px_in5 225 rfl rfl)⟩
theorem fl_10_27 : px_fl "NettleGreenModel" 27 10 13 true := ⟨_, _, _, px_cf10, by decide, (px_in5 225 rfl rfl), rfl, by decide⟩
theorem fr_10_30 : px_flr "NettleGreenModel" 30 10 14 := ⟨_, _, _, px_cf10, by decide, (px_in5 226 rfl rfl)⟩
theorem fl_10_30 : px_fl "NettleGreenModel" 30 10 14 true := ⟨_, _, _, px_cf10, by decide, (px_in5 226 rfl rfl), rfl, by decide⟩
theorem fr_10_33 : px_flr "NettleGreenModel" 33 10 15 := ⟨_, _, _, px_cf10, by decide, (px_in5 227 rfl rfl)⟩
theorem fl_10_33 : px_fl "NettleGreenModel" 33 10 15 true := ⟨_, _, _, px_cf10, by decide, (px_in5 227 rfl rfl), rfl, by decide⟩
theorem fr_10_36 : px_flr "NettleGreenModel" 36 10 16 := ⟨_, _, _, px_cf10, by decide, (px_in5 228 rfl rfl)⟩
theorem fl_10_36 : px_fl "NettleGreenModel" 36 10 16 true := ⟨_, _, _, px_cf10, by decide, (px_in5 228 rfl rfl), rfl, by decide⟩
theorem fr_10_39 : px_flr "NettleGreenModel" 39 10 26 := ⟨_, _, _, px_cf10, by decide, (px_in5 238 rfl rfl)⟩
theorem fl_10_39 : px_fl "NettleGreenModel" 39 10 26 true := ⟨_, _, _, px_cf10, by decide, (px_in5 238 rfl rfl), rfl, by decide⟩
theorem fr_10_42 : px_flr "NettleGreenModel" 42 10 27 := ⟨_, _, _, px_cf10, by decide, (px_in5 239 rfl rfl)⟩
theorem fl_10_42 : px_fl "NettleGreenModel" 42 10 27 true := ⟨_, _, _, px_cf10, by decide, (px_in5 239 rfl rfl), rfl, by decide⟩
theorem fr_10_45 : px_flr "NettleGreenModel" 45 10 28 := ⟨_, _, _, px_cf10, by decide, (px_in6 0 rfl rfl)⟩
theorem fl_10_45 : px_fl "NettleGreenModel" 45 10 28 true := ⟨_, _, _, px_cf10, by decide, (px_in6 0 rfl rfl), rfl, by decide⟩
theorem fr_10_48 : px_flr "NettleGreenModel" 48 10 29 := ⟨_, _, _, px_cf10, by decide, (px_in6 1 rfl rfl)⟩
theorem fl_10_48 : px_fl "NettleGreenModel" 48 10 29 true := ⟨_, _, _, px_cf10, by decide, (px_in6 1 rfl rfl), rfl, by decide⟩
theorem fr_10_51 : px_flr "NettleGreenModel" 51 10 30 := ⟨_, _, _, px_cf10, by decide, (px_in6 2 rfl rfl)⟩
theorem fl_10_51 : px_fl "NettleGreenModel" 51 10 30 true := ⟨_, _, _, px_cf10, by decide, (px_in6 2 rfl rfl), rfl, by decide⟩
theorem fr_10_54 : px_flr "NettleGreenModel" 54 10 31 := ⟨_, _, _, px_cf10, by decide, (px_in6 3 rfl rfl)⟩
theorem fl_10_54 : px_fl "NettleGreenModel" 54 10 31 true := ⟨_, _, _, px_cf10, by decide, (px_in6 3 rfl rfl), rfl, by decide⟩
theorem fr_10_57 : px_flr "NettleGreenModel" 57 10 32 := ⟨_, _, _, px_cf10, by decide, (px_in6 4 rfl rfl)⟩
theorem fl_10_57 : px_fl "NettleGreenModel" 57 10 32 true := ⟨_, _, _, px_cf10, by decide, (px_in6 4 rfl rfl), rfl, by decide⟩
theorem fr_10_60 : px_flr "NettleGreenModel" 60 10 33 := ⟨_, _, _, px_cf10, by decide, (px_in6 5 rfl rfl)⟩
theorem fl_10_60 : px_fl "NettleGreenModel" 60 10 33 true := ⟨_, _, _, px_cf10, by decide, (px_in6 5 rfl rfl), rfl, by decide⟩
theorem fr_10_63 : px_flr "NettleGreenModel" 63 10 34 := ⟨_, _, _, px_cf10, by decide, (px_in6 6 rfl rfl)⟩
theorem fl_10_63 : px_fl "NettleGreenModel" 63 10 34 true := ⟨_, _, _, px_cf10, by decide, (px_in6 6 rfl rfl), rfl, by decide⟩
theorem fr_10_66 : px_flr "NettleGreenModel" 66 10 35 := ⟨_, _, _, px_cf10, by decide, (px_in6 7 rfl rfl)⟩
theorem fl_10_66 : px_fl "NettleGreenModel" 66 10 35 true := ⟨_, _, _, px_cf10, by decide, (px_in6 7 rfl rfl), rfl, by decide⟩
theorem fr_10_69 : px_flr "NettleGreenModel" 69 10 36 := ⟨_, _, _, px_cf10, by decide, (px_in6 8 rfl rfl)⟩
theorem fl_10_69 : px_fl "NettleGreenModel" 69 10 36 true := ⟨_, _, _, px_cf10, by decide, (px_in6 8 rfl rfl), rfl, by decide⟩
theorem fr_10_72 : px_flr "NettleGreenModel" 72 10 37 := ⟨_, _, _, px_cf10, by decide, (px_in6 9 rfl rfl)⟩
theorem fl_10_72 : px_fl "NettleGreenModel" 72 10 37 true := ⟨_, _, _, px_cf10, by decide, (px_in6 9 rfl rfl), rfl, by decide⟩
theorem fr_10_75 : px_flr "NettleGreenModel" 75 10 38 := ⟨_, _, _, px_cf10, by decide, (px_in6 10 rfl rfl)⟩
theorem fl_10_75 : px_fl "NettleGreenModel" 75 10 38 true := ⟨_, _, _, px_cf10, by decide, (px_in6 10 rfl rfl), rfl, by decide⟩
theorem fr_10_78 : px_flr "NettleGreenModel" 78 10 39 := ⟨_, _, _, px_cf10, by decide, (px_in6 11 rfl rfl)⟩
theorem fl_10_78 : px_fl "NettleGreenModel" 78 10 39 true := ⟨_, _, _, px_cf10, by decide, (px_in6 11 rfl rfl), rfl, by decide⟩
theorem fr_10_81 : px_flr "NettleGreenModel" 81 10 40 := ⟨_, _, _, px_cf10, by decide, (px_in6 12 rfl rfl)⟩
theorem fl_10_81 : px_fl "NettleGreenModel" 81 10 40 true := ⟨_, _, _, px_cf10, by decide, (px_in6 12 rfl rfl), rfl, by decide⟩
theorem fr_10_84 : px_flr "NettleGreenModel" 84 10 41 := ⟨_, _, _, px_cf10, by decide, (px_in6 13 rfl rfl)⟩
theorem fl_10_84 : px_fl "NettleGreenModel" 84 10 41 true := ⟨_, _, _, px_cf10, by decide, (px_in6 13 rfl rfl), rfl, by decide⟩
theorem fr_10_87 : px_flr "NettleGreenModel" 87 10 42 := ⟨_, _, _, px_cf10, by decide, (px_in6 14 rfl rfl)⟩
theorem fl_10_87 : px_fl "NettleGreenModel" 87 10 42 true := ⟨_, _, _, px_cf10, by decide, (px_in6 14 rfl rfl), rfl, by decide⟩
theorem fr_10_90 : px_flr "NettleGreenModel" 90 10 43 := ⟨_, _, _, px_cf10, by decide, (px_in6 15 rfl rfl)⟩
theorem fl_10_90 : px_fl "NettleGreenModel" 90 10 43 true := ⟨_, _, _, px_cf10, by decide, (px_in6 15 rfl rfl), rfl, by decide⟩
theorem fr_10_93 : px_flr "NettleGreenModel" 93 10 44 := ⟨_, _, _, px_cf10, by decide, (px_in6 16 rfl rfl)⟩
theorem fl_10_93 : px_fl "NettleGreenModel" 93 10 44 true := ⟨_, _, _, px_cf10, by decide, (px_in6 16 rfl rfl), rfl, by decide⟩
theorem fr_10_96 : px_flr "NettleGreenModel" 96 10 54 := ⟨_, _, _, px_cf10, by decide, (px_in6 26 rfl rfl)⟩
theorem fl_10_96 : px_fl "NettleGreenModel" 96 10 54 false := ⟨_, _, _, px_cf10, by decide, (px_in6 26 rfl rfl), rfl, by decide⟩
theorem fr_10_99 : px_flr "NettleGreenModel" 99 10 60 := ⟨_, _, _, px_cf10, by decide, (px_in6 32 rfl rfl)⟩
theorem fl_10_99 : px_fl "NettleGreenModel" 99 10 60 true := ⟨_, _, _, px_cf10, by decide, (px_in6 32 rfl rfl), rfl, by decide⟩
theorem fr_10_102 : px_flr "NettleGreenModel" 102 10 61 := ⟨_, _, _, px_cf10, by decide, (px_in6 33 rfl rfl)⟩
theorem fl_10_102 : px_fl "NettleGreenModel" 102 10 61 true := ⟨_, _, _, px_cf10, by decide, (px_in6 33 rfl rfl), rfl, by decide⟩
theorem fr_10_105 : px_flr "NettleGreenModel" 105 10 62 := ⟨_, _, _, px_cf10, by decide, (px_in6 34 rfl rfl)⟩
theorem fl_10_105 : px_fl "NettleGreenModel" 105 10 62 true := ⟨_, _, _, px_cf10, by decide, (px_in6 34 rfl rfl), rfl, by decide⟩
theorem fr_10_108 : px_flr "NettleGreenModel" 108 10 65 := ⟨_, _, _, px_cf10, by decide, (px_in6 37 rfl rfl)⟩
theorem fl_10_108 : px_fl "NettleGreenModel" 108 10 65 true := ⟨_, _, _, px_cf10, by decide, (px_in6 37 rfl rfl), rfl, by decide⟩
theorem fr_10_111 : px_flr "NettleGreenModel" 111 10 66 := ⟨_, _, _, px_cf10, by decide, (px_in6 38 rfl rfl)⟩
theorem fl_10_111 : px_fl "NettleGreenModel" 111 10 66 true := ⟨_, _, _, px_cf10, by decide, (px_in6 38 rfl rfl), rfl, by decide⟩
theorem fr_10_114 : px_flr "NettleGreenModel" 114 10 67 := ⟨_, _, _, px_cf10, by decide, (px_in6 39 rfl rfl)⟩
theorem fl_10_114 : px_fl "NettleGreenModel" 114 10 67 true := ⟨_, _, _, px_cf10, by decide, (px_in6 39 rfl rfl), rfl, by decide⟩
theorem fr_10_117 : px_flr "NettleGreenModel" 117 10 70 := ⟨_, _, _, px_cf10, by decide, (px_in6 42 rfl rfl)⟩
theorem fl_10_117 : px_fl "NettleGreenModel" 117 10 70 true := ⟨_, _, _, px_cf10, by decide, (px_in6 42 rfl rfl), rfl, by decide⟩
theorem fr_10_120 : px_flr "NettleGreenModel" 120 10 71 := ⟨_, _, _, px_cf10, by decide, (px_in6 43 rfl rfl)⟩
theorem fl_10_120 : px_fl "NettleGreenModel" 120 10 71 true := ⟨_, _, _, px_cf10, by decide, (px_in6 43 rfl rfl), rfl, by decide⟩
theorem fr_10_123 : px_flr "NettleGreenModel" 123 10 72 := ⟨_, _, _, px_cf10, by decide, (px_in6 44 rfl rfl)⟩
theorem fl_10_123 : px_fl "NettleGreenModel" 123 10 72 true := ⟨_, _, _, px_cf10, by decide, (px_in6 44 rfl rfl), rfl, by decide⟩
theorem fr_10_126 : px_flr "NettleGreenModel" 126 10 73 := ⟨_, _, _, px_cf10, by decide, (px_in6 45 rfl rfl)⟩
theorem fl_10_126 : px_fl "NettleGreenModel" 126 10 73 true := ⟨_, _, _, px_cf10, by decide, (px_in6 45 rfl rfl), rfl, by decide⟩
theorem fr_10_129 : px_flr "NettleGreenModel" 129 10 74 := ⟨_, _, _, px_cf10, by decide, (px_in6 46 rfl rfl)⟩
theorem fl_10_129 : px_fl "NettleGreenModel" 129 10 74 true := ⟨_, _, _, px_cf10, by decide, (px_in6 46 rfl rfl), rfl, by decide⟩
theorem fr_10_132 : px_flr "NettleGreenModel" 132 10 75 := ⟨_, _, _, px_cf10, by decide, (px_in6 47 rfl rfl)⟩
theorem fl_10_132 : px_fl "NettleGreenModel" 132 10 75 true := ⟨_, _, _, px_cf10, by decide, (px_in6 47 rfl rfl), rfl, by decide⟩
theorem fr_10_135 : px_flr "NettleGreenModel" 135 10 76 := ⟨_, _, _, px_cf10, by decide, (px_in6 48 rfl rfl)⟩
theorem fl_10_135 : px_fl "NettleGreenModel" 135 10 76 true := ⟨_, _, _, px_cf10, by decide, (px_in6 48 rfl rfl), rfl, by decide⟩
theorem fr_10_138 : px_flr "NettleGreenModel" 138 10 77 := ⟨_, _, _, px_cf10, by decide, (px_in6 49 rfl rfl)⟩
theorem fl_10_138 : px_fl "NettleGreenModel" 138 10 77 true := ⟨_, _, _, px_cf10, by decide, (px_in6 49 rfl rfl), rfl, by decide⟩
theorem fr_10_142 : px_flr "NettleGreenModel" 142 10 80 := ⟨_, _, _, px_cf10, by decide, (px_in6 52 rfl rfl)⟩
theorem fl_10_142 : px_fl "NettleGreenModel" 142 10 80 true := ⟨_, _, _, px_cf10, by decide, (px_in6 52 rfl rfl), rfl, by decide⟩
theorem fr_10_145 : px_flr "NettleGreenModel" 145 10 81 := ⟨_, _, _, px_cf10, by decide, (px_in6 53 rfl rfl)⟩
theorem fl_10_145 : px_fl "NettleGreenModel" 145 10 81 true := ⟨_, _, _, px_cf10, by decide, (px_in6 53 rfl rfl), rfl, by decide⟩
theorem fr_10_148 : px_flr "NettleGreenModel" 148 10 82 := ⟨_, _, _, px_cf10, by decide, (px_in6 54 rfl rfl)⟩
theorem fl_10_148 : px_fl "NettleGreenModel" 148 10 82 true := ⟨_, _, _, px_cf10, by decide, (px_in6 54 rfl rfl), rfl, by decide⟩
theorem fr_10_151 : px_flr "NettleGreenModel" 151 10 83 := ⟨_, _, _, px_cf10, by decide, (px_in6 55 rfl rfl)⟩
theorem fl_10_151 : px_fl "NettleGreenModel" 151 10 83 true := ⟨_, _, _, px_cf10, by decide, (px_in6 55 rfl rfl), rfl, by decide⟩
theorem fr_10_154 : px_flr "NettleGreenModel" 154 10 84 := ⟨_, _, _, px_cf10, by decide, (px_in6 56 rfl rfl)⟩
theorem fl_10_154 : px_fl "NettleGreenModel" 154 10 84 true := ⟨_, _, _, px_cf10, by decide, (px_in6 56 rfl rfl), rfl, by decide⟩
theorem fr_10_157 : px_flr "NettleGreenModel" 157 10 1 := ⟨_, _, _, px_cf10, by decide, (px_in5 213 rfl rfl)⟩
theorem fl_10_157 : px_fl "NettleGreenModel" 157 10 1 false := ⟨_, _, _, px_cf10, by decide, (px_in5 213 rfl rfl), rfl, by decide⟩
theorem fr_10_164 : px_flr "NettleGreenModel" 164 10 4 := ⟨_, _, _, px_cf10, by decide, (px_in5 216 rfl rfl)⟩
theorem fl_10_164 : px_fl "NettleGreenModel" 164 10 4 false := ⟨_, _, _, px_cf10, by decide, (px_in5 216 rfl rfl), rfl, by decide⟩
theorem fr_10_167 : px_flr "NettleGreenModel" 167 10 5 := ⟨_, _, _, px_cf10, by decide, (px_in5 217 rfl rfl)⟩
theorem fl_10_167 : px_fl "NettleGreenModel" 167 10 5 false := ⟨_, _, _, px_cf10, by decide, (px_in5 217 rfl rfl), rfl, by decide⟩
theorem fr_10_174 : px_flr "NettleGreenModel" 174 10 7 := ⟨_, _, _, px_cf10, by decide, (px_in5 219 rfl rfl)⟩
theorem fl_10_174 : px_fl "NettleGreenModel" 174 10 7 false := ⟨_, _, _, px_cf10, by decide, (px_in5 219 rfl rfl), rfl, by decide⟩
theorem fr_10_177 : px_flr "NettleGreenModel" 177 10 9 := ⟨_, _, _, px_cf10, by decide, (px_in5 221 rfl rfl)⟩
theorem fl_10_177 : px_fl "NettleGreenModel" 177 10 9 false := ⟨_, _, _, px_cf10, by decide, (px_in5 221 rfl rfl), rfl, by decide⟩
theorem fr_10_181 : px_flr "NettleGreenModel" 181 10 8 := ⟨_, _, _, px_cf10, by decide, (px_in5 220 rfl rfl)⟩
theorem fl_10_181 : px_fl "NettleGreenModel" 181 10 8 false := ⟨_, _, _, px_cf10, by decide, (px_in5 220 rfl rfl), rfl, by decide⟩
theorem fr_10_184 : px_flr "NettleGreenModel" 184 10 6 := ⟨_, _, _, px_cf10, by decide, (px_in5 218 rfl rfl)⟩
theorem fl_10_184 : px_fl "NettleGreenModel" 184 10 6 false := ⟨_, _, _, px_cf10, by decide, (px_in5 218 rfl rfl), rfl, by decide⟩
theorem fr_10_197 : px_flr "NettleGreenModel" 197 10 2 := ⟨_, _, _, px_cf10, by decide, (px_in5 214 rfl rfl)⟩
theorem fl_10_197 : px_fl "NettleGreenModel" 197 10 2 false := ⟨_, _, _, px_cf10, by decide, (px_in5 214 rfl rfl), rfl, by decide⟩
theorem fr_10_272 : px_flr "NettleGreenModel" 272 10 45 := ⟨_, _, _, px_cf10, by decide, (px_in6 17 rfl rfl)⟩
theorem fl_10_272 : px_fl "NettleGreenModel" 272 10 45 false := ⟨_, _, _, px_cf10, by decide, (px_in6 17 rfl rfl), rfl, by decide⟩
theorem fr_10_275 : px_flr "NettleGreenModel" 275 10 17 := ⟨_, _, _, px_cf10, by decide, (px_in5 229 rfl rfl)⟩
theorem fl_10_275 : px_fl "NettleGreenModel" 275 10 17 false := ⟨_, _, _, px_cf10, by decide, (px_in5 229 rfl rfl), rfl, by decide⟩
theorem fr_10_278 : px_flr "NettleGreenModel" 278 10 19 := ⟨_, _, _, px_cf10, by decide, (px_in5 231 rfl rfl)⟩
theorem fl_10_278 : px_fl "NettleGreenModel" 278 10 19 false := ⟨_, _, _, px_cf10, by decide, (px_in5 231 rfl rfl), rfl, by decide⟩
theorem fr_10_288 : px_flr "NettleGreenModel" 288 10 23 := ⟨_, _, _, px_cf10, by decide, (px_in5 235 rfl rfl)⟩
theorem fl_10_288 : px_fl "NettleGreenModel" 288 10 23 false := ⟨_, _, _, px_cf10, by decide, (px_in5 235 rfl rfl), rfl, by decide⟩
theorem fr_10_291 : px_flr "NettleGreenModel" 291 10 20 := ⟨_, _, _, px_cf10, by decide, (px_in5 232 rfl rfl)⟩
theorem fl_10_291 : px_fl "NettleGreenModel" 291 10 20 false := ⟨_, _, _, px_cf10, by decide, (px_in5 232 rfl rfl), rfl, by decide⟩
theorem fr_10_294 : px_flr "NettleGreenModel" 294 10 22 := ⟨_, _, _, px_cf10, by decide, (px_in5 234 rfl rfl)⟩
theorem fl_10_294 : px_fl "NettleGreenModel" 294 10 22 false := ⟨_, _, _, px_cf10, by decide, (px_in5 234 rfl rfl), rfl, by decide⟩
theorem fr_10_313 : px_flr "NettleGreenModel" 313 10 24 := ⟨_, _, _, px_cf10, by decide, (px_in5 236 rfl rfl)⟩
theorem fl_10_313 : px_fl "NettleGreenModel" 313 10 24 false := ⟨_, _, _, px_cf10, by decide, (px_in5 236 rfl rfl), rfl, by decide⟩
theorem fr_10_336 : px_flr "NettleGreenModel" 336 10 25 := ⟨_, _, _, px_cf10, by decide, (px_in5 237 rfl rfl)⟩
theorem fl_10_336 : px_fl "NettleGreenModel" 336 10 25 false := ⟨_, _, _, px_cf10, by decide, (px_in5 237 rfl rfl), rfl, by decide⟩
theorem fr_10_343 : px_flr "NettleGreenModel" 343 10 18 := ⟨_, _, _, px_cf10, by decide, (px_in5 230 rfl rfl)⟩
theorem fl_10_343 : px_fl "NettleGreenModel" 343 10 18 false := ⟨_, _, _, px_cf10, by decide, (px_in5 230 rfl rfl), rfl, by decide⟩
theorem fr_10_356 : px_flr "NettleGreenModel" 356 10 46 := ⟨_, _, _, px_cf10, by decide, (px_in6 18 rfl rfl)⟩
theorem fl_10_356 : px_fl "NettleGreenModel" 356 10 46 false := ⟨_, _, _, px_cf10, by decide, (px_in6 18 rfl rfl), rfl, by decide⟩
theorem fr_10_362 : px_flr "NettleGreenModel" 362 10 47 := ⟨_, _, _, px_cf10, by decide, (px_in6 19 rfl rfl)⟩
theorem fl_10_362 : px_fl "NettleGreenModel" 362 10 47 false := ⟨_, _, _, px_cf10, by decide, (px_in6 19 rfl rfl), rfl, by decide⟩
theorem fr_10_380 : px_flr "NettleGreenModel" 380 10 57 := ⟨_, _, _, px_cf10, by decide, (px_in6 29 rfl rfl)⟩
theorem fl_10_380 : px_fl "NettleGreenModel" 380 10 57 false := ⟨_, _, _, px_cf10, by decide, (px_in6 29 rfl rfl), rfl, by decide⟩
theorem fr_10_383 : px_flr "NettleGreenModel" 383 10 48 := ⟨_, _, _, px_cf10, by decide, (px_in6 20 rfl rfl)⟩
theorem fl_10_383 : px_fl "NettleGreenModel" 383 10 48 false := ⟨_, _, _, px_cf10, by decide, (px_in6 20 rfl rfl), rfl, by decide⟩
theorem fr_10_386 : px_flr "NettleGreenModel" 386 10 58 := ⟨_, _, _, px_cf10, by decide, (px_in6 30 rfl rfl)⟩
theorem fl_10_386 : px_fl "NettleGreenModel" 386 10 58 false := ⟨_, _, _, px_cf10, by decide, (px_in6 30 rfl rfl), rfl, by decide⟩
theorem fr_10_389 : px_flr "NettleGreenModel" 389 10 49 := ⟨_, _, _, px_cf10, by decide, (px_in6 21 rfl rfl)⟩
theorem fl_10_389 : px_fl "NettleGreenModel" 389 10 49 false := ⟨_, _, _, px_cf10, by decide, (px_in6 21 rfl rfl), rfl, by decide⟩
theorem fr_10_392 : px_flr "NettleGreenModel" 392 10 59 := ⟨_, _, _, px_cf10, by decide, (px_in6 31 rfl rfl)⟩
theorem fl_10_392 : px_fl "NettleGreenModel" 392 10 59 false := ⟨_, _, _, px_cf10, by decide, (px_in6 31 rfl rfl), rfl, by decide⟩
theorem fr_10_395 : px_flr "NettleGreenModel" 395 10 50 := ⟨_, _, _, px_cf10, by decide, (px_in6 22 rfl rfl)⟩
theorem fl_10_395 : px_fl "NettleGreenModel" 395 10 50 false := ⟨_, _, _, px_cf10, by decide, (px_in6 22 rfl rfl), rfl, by decide⟩
theorem fr_10_404 : px_flr "NettleGreenModel" 404 10 51 := ⟨_, _, _, px_cf10, by decide, (px_in6 23 rfl rfl)⟩
theorem fl_10_404 : px_fl "NettleGreenModel" 404 10 51 false := ⟨_, _, _, px_cf10, by decide, (px_in6 23 rfl rfl), rfl, by decide⟩
theorem fr_10_407 : px_flr "NettleGreenModel" 407 10 52 := ⟨_, _, _, px_cf10, by decide, (px_in6 24 rfl rfl)⟩
theorem fl_10_407 : px_fl "NettleGreenModel" 407 10 52 false := ⟨_, _, _, px_cf10, by decide, (px_in6 24 rfl rfl), rfl, by decide⟩
theorem fr_10_410 : px_flr "NettleGreenModel" 410 10 53 := ⟨_, _, _, px_cf10, by decide, (px_in6 25 rfl rfl)⟩
theorem fl_10_410 : px_fl "NettleGreenModel" 410 10 53 false := ⟨_, _, _, px_cf10, by decide, (px_in6 25 rfl rfl), rfl, by decide⟩
theorem fr_10_413 : px_flr "NettleGreenModel" 413 10 55 := ⟨_, _, _, px_cf10, by decide, (px_in6 27 rfl rfl)⟩
theorem fl_10_413 : px_fl "NettleGreenModel" 413 10 55 false := ⟨_, _, _, px_cf10, by decide, (px_in6 27 rfl rfl), rfl, by decide⟩
theorem fr_10_416 : px_flr "NettleGreenModel" 416 10 56 := ⟨_, _, _, px_cf10, by decide, (px_in6 28 rfl rfl)⟩
theorem fl_10_416 : px_fl "NettleGreenModel" 416 10 56 false := ⟨_, _, _, px_cf10, by decide, (px_in6 28 rfl rfl), rfl, by decide⟩
theorem fr_10_419 : px_flr "NettleGreenModel" 419 10 21 := ⟨_, _, _, px_cf10, by decide, (px_in5 233 rfl rfl)⟩
theorem fl_10_419 : px_fl "NettleGreenModel" 419 10 21 false := ⟨_, _, _, px_cf10, by decide, (px_in5 233 rfl rfl), rfl, by decide⟩
theorem fr_10_428 : px_flr "NettleGreenModel" 428 10 63 := ⟨_, _, _, px_cf10, by decide, (px_in6 35 rfl rfl)⟩
theorem fl_10_428 : px_fl "NettleGreenModel" 428 10 63 false := ⟨_, _, _, px_cf10, by decide, (px_in6 35 rfl rfl), rfl, by decide⟩
theorem fr_10_431 : px_flr "NettleGreenModel" 431 10 64 := ⟨_, _, _, px_cf10, by decide, (px_in6 36 rfl rfl)⟩
theorem fl_10_431 : px_fl "NettleGreenModel" 431 10 64 false := ⟨_, _, _, px_cf10, by decide, (px_in6 36 rfl rfl), rfl, by decide⟩
theorem fr_10_434 : px_flr "NettleGreenModel" 434 10 78 := ⟨_, _, _, px_cf10, by decide, (px_in6 50 rfl rfl)⟩
theorem fl_10_434 : px_fl "NettleGreenModel" 434 10 78 false := ⟨_, _, _, px_cf10, by decide, (px_in6 50 rfl rfl), rfl, by decide⟩
theorem fr_10_437 : px_flr "NettleGreenModel" 437 10 68 := ⟨_, _, _, px_cf10, by decide, (px_in6 40 rfl rfl)⟩
theorem fl_10_437 : px_fl "NettleGreenModel" 437 10 68 false := ⟨_, _, _, px_cf10, by decide, (px_in6 40 rfl rfl), rfl, by decide⟩
theorem fr_10_517 : px_flr "NettleGreenModel" 517 10 69 := ⟨_, _, _, px_cf10, by decide, (px_in6 41 rfl rfl)⟩
theorem fl_10_517 : px_fl "NettleGreenModel" 517 10 69 false := ⟨_, _, _, px_cf10, by decide, (px_in6 41 rfl rfl), rfl, by decide⟩
theorem fr_10_551 : px_flr "NettleGreenModel" 551 10 79 := ⟨_, _, _, px_cf10, by decide, (px_in6 51 rfl rfl)⟩
theorem fl_10_551 : px_fl "NettleGreenModel" 551 10 79 false := ⟨_, _, _, px_cf10, by decide, (px_in6 51 rfl rfl), rfl, by decide⟩
set_option maxRecDepth 100000 in
theorem kd_X0_init : Cond.code mX0_init.1 mX0_init.2.1 mX0_init.2.2.1 mX0_init.2.2.2 ∈ lw_gd ∧ Cond.initialized mX0_init.1.cls ∈ lw_gd ∧ (mX0_init.1.cls ≠ "java/lang/invoke/MethodHandle" ∧ mX0_init.1.cls ≠ "java/lang/invoke/VarHandle" ∧ (parseMethodDescriptor mX0_init.1.desc).map (fun d => d.parameters.length) = some 0) ∧ mX0_init.2.2.1 ≤ 80 := ⟨(px_in2 129 rfl rfl), (px_in1 13 rfl rfl), by decide +kernel, by decide⟩
set_option maxRecDepth 100000 in
theorem kd_X0_companyOf : Cond.code mX0_companyOf.1 mX0_companyOf.2.1 mX0_companyOf.2.2.1 mX0_companyOf.2.2.2 ∈ lw_gd ∧ Cond.initialized mX0_companyOf.1.cls ∈ lw_gd ∧ (mX0_companyOf.1.cls ≠ "java/lang/invoke/MethodHandle" ∧ mX0_companyOf.1.cls ≠ "java/lang/invoke/VarHandle" ∧ (parseMethodDescriptor mX0_companyOf.1.desc).map (fun d => d.parameters.length) = some 3) ∧ mX0_companyOf.2.2.1 ≤ 80 := ⟨(px_in5 1 rfl rfl), (px_in1 13 rfl rfl), by decide +kernel, by decide⟩
set_option maxRecDepth 100000 in
theorem kd_X0_stepsBetween : Cond.code mX0_stepsBetween.1 mX0_stepsBetween.2.1 mX0_stepsBetween.2.2.1 mX0_stepsBetween.2.2.2 ∈ lw_gd ∧ Cond.initialized mX0_stepsBetween.1.cls ∈ lw_gd ∧ (mX0_stepsBetween.1.cls ≠ "java/lang/invoke/MethodHandle" ∧ mX0_stepsBetween.1.cls ≠ "java/lang/invoke/VarHandle" ∧ (parseMethodDescriptor mX0_stepsBetween.1.desc).map (fun d => d.parameters.length) = some 4) ∧ mX0_stepsBetween.2.2.1 ≤ 80 := ⟨(px_in5 17 rfl rfl), (px_in1 13 rfl rfl), by decide +kernel, by decide⟩
set_option maxRecDepth 100000 in
theorem kd_X0_fewestGroups : Cond.code mX0_fewestGroups.1 mX0_fewestGroups.2.1 mX0_fewestGroups.2.2.1 mX0_fewestGroups.2.2.2 ∈ lw_gd ∧ Cond.initialized mX0_fewestGroups.1.cls ∈ lw_gd ∧ (mX0_fewestGroups.1.cls ≠ "java/lang/invoke/MethodHandle" ∧ mX0_fewestGroups.1.cls ≠ "java/lang/invoke/VarHandle" ∧ (parseMethodDescriptor mX0_fewestGroups.1.desc).map (fun d => d.parameters.length) = some 3) ∧ mX0_fewestGroups.2.2.1 ≤ 80 := ⟨(px_in4 237 rfl rfl), (px_in1 13 rfl rfl), by decide +kernel, by decide⟩
set_option maxRecDepth 100000 in
theorem kd_X0_isParted : Cond.code mX0_isParted.1 mX0_isParted.2.1 mX0_isParted.2.2.1 mX0_isParted.2.2.2 ∈ lw_gd ∧ Cond.initialized mX0_isParted.1.cls ∈ lw_gd ∧ (mX0_isParted.1.cls ≠ "java/lang/invoke/MethodHandle" ∧ mX0_isParted.1.cls ≠ "java/lang/invoke/VarHandle" ∧ (parseMethodDescriptor mX0_isParted.1.desc).map (fun d => d.parameters.length) = some 4) ∧ mX0_isParted.2.2.1 ≤ 80 := ⟨(px_in5 5 rfl rfl), (px_in1 13 rfl rfl), by decide +kernel, by decide⟩
set_option maxRecDepth 100000 in
theorem kd_X0_isFree : Cond.code mX0_isFree.1 mX0_isFree.2.1 mX0_isFree.2.2.1 mX0_isFree.2.2.2 ∈ lw_gd ∧ Cond.initialized mX0_isFree.1.cls ∈ lw_gd ∧ (mX0_isFree.1.cls ≠ "java/lang/invoke/MethodHandle" ∧ mX0_isFree.1.cls ≠ "java/lang/invoke/VarHandle" ∧ (parseMethodDescriptor mX0_isFree.1.desc).map (fun d => d.parameters.length) = some 3) ∧ mX0_isFree.2.2.1 ≤ 80 := ⟨(px_in5 9 rfl rfl), (px_in1 13 rfl rfl), by decide +kernel, by decide⟩
set_option maxRecDepth 100000 in
theorem kd_X1_init : Cond.code mX1_init.1 mX1_init.2.1 mX1_init.2.2.1 mX1_init.2.2.2 ∈ lw_gd ∧ Cond.initialized mX1_init.1.cls ∈ lw_gd ∧ (mX1_init.1.cls ≠ "java/lang/invoke/MethodHandle" ∧ mX1_init.1.cls ≠ "java/lang/invoke/VarHandle" ∧ (parseMethodDescriptor mX1_init.1.desc).map (fun d => d.parameters.length) = some 0) ∧ mX1_init.2.2.1 ≤ 80 := ⟨(px_in1 39 rfl rfl), (px_in1 3 rfl rfl), by decide +kernel, by decide⟩
set_option maxRecDepth 100000 in
theorem kd_X1_clear : Cond.code mX1_clear.1 mX1_clear.2.1 mX1_clear.2.2.1 mX1_clear.2.2.2 ∈ lw_gd ∧ Cond.initialized mX1_clear.1.cls ∈ lw_gd ∧ (mX1_clear.1.cls ≠ "java/lang/invoke/MethodHandle" ∧ mX1_clear.1.cls ≠ "java/lang/invoke/VarHandle" ∧ (parseMethodDescriptor mX1_clear.1.desc).map (fun d => d.parameters.length) = some 0) ∧ mX1_clear.2.2.1 ≤ 80 := ⟨(px_in1 69 rfl rfl), (px_in1 3 rfl rfl), by decide +kernel, by decide⟩
set_option maxRecDepth 100000 in
theorem kd_X1_setUntold : Cond.code mX1_setUntold.1 mX1_setUntold.2.1 mX1_setUntold.2.2.1 mX1_setUntold.2.2.2 ∈ lw_gd ∧ Cond.initialized mX1_setUntold.1.cls ∈ lw_gd ∧ (mX1_setUntold.1.cls ≠ "java/lang/invoke/MethodHandle" ∧ mX1_setUntold.1.cls ≠ "java/lang/invoke/VarHandle" ∧ (parseMethodDescriptor mX1_setUntold.1.desc).map (fun d => d.parameters.length) = some 0) ∧ mX1_setUntold.2.2.1 ≤ 80 := ⟨(px_in1 65 rfl rfl), (px_in1 3 rfl rfl), by decide +kernel, by decide⟩
set_option maxRecDepth 100000 in
theorem kd_X1_add : Cond.code mX1_add.1 mX1_add.2.1 mX1_add.2.2.1 mX1_add.2.2.2 ∈ lw_gd ∧ Cond.initialized mX1_add.1.cls ∈ lw_gd ∧ (mX1_add.1.cls ≠ "java/lang/invoke/MethodHandle" ∧ mX1_add.1.cls ≠ "java/lang/invoke/VarHandle" ∧ (parseMethodDescriptor mX1_add.1.desc).map (fun d => d.parameters.length) = some 1) ∧ mX1_add.2.2.1 ≤ 80 := ⟨(px_in1 73 rfl rfl), (px_in1 3 rfl rfl), by decide +kernel, by decide⟩
set_option maxRecDepth 100000 in
theorem kd_X1_lumpsLeft : Cond.code mX1_lumpsLeft.1 mX1_lumpsLeft.2.1 mX1_lumpsLeft.2.2.1 mX1_lumpsLeft.2.2.2 ∈ lw_gd ∧ Cond.initialized mX1_lumpsLeft.1.cls ∈ lw_gd ∧ (mX1_lumpsLeft.1.cls ≠ "java/lang/invoke/MethodHandle" ∧ mX1_lumpsLeft.1.cls ≠ "java/lang/invoke/VarHandle" ∧ (parseMethodDescriptor mX1_lumpsLeft.1.desc).map (fun d => d.parameters.length) = some 4) ∧ mX1_lumpsLeft.2.2.1 ≤ 80 := ⟨(px_in4 19 rfl rfl), (px_in1 3 rfl rfl), by decide +kernel, by decide⟩
set_option maxRecDepth 100000 in
theorem kd_X1_known : Cond.code mX1_known.1 mX1_known.2.1 mX1_known.2.2.1 mX1_known.2.2.2 ∈ lw_gd ∧ Cond.initialized mX1_known.1.cls ∈ lw_gd ∧ (mX1_known.1.cls ≠ "java/lang/invoke/MethodHandle" ∧ mX1_known.1.cls ≠ "java/lang/invoke/VarHandle" ∧ (parseMethodDescriptor mX1_known.1.desc).map (fun d => d.parameters.length) = some 5) ∧ mX1_known.2.2.1 ≤ 80 := ⟨(px_in4 22 rfl rfl), (px_in1 3 rfl rfl), by decide +kernel, by decide⟩
set_option maxRecDepth 100000 in
theorem kd_X1_joined : Cond.code mX1_joined.1 mX1_joined.2.1 mX1_joined.2.2.1 mX1_joined.2.2.2 ∈ lw_gd ∧ Cond.initialized mX1_joined.1.cls ∈ lw_gd ∧ (mX1_joined.1.cls ≠ "java/lang/invoke/MethodHandle" ∧ mX1_joined.1.cls ≠ "java/lang/invoke/VarHandle" ∧ (parseMethodDescriptor mX1_joined.1.desc).map (fun d => d.parameters.length) = some 3) ∧ mX1_joined.2.2.1 ≤ 80 := ⟨(px_in4 25 rfl rfl), (px_in1 3 rfl rfl), by decide +kernel, by decide⟩
set_option maxRecDepth 100000 in
theorem kd_X2_init : Cond.code mX2_init.1 mX2_init.2.1 mX2_init.2.2.1 mX2_init.2.2.2 ∈ lw_gd ∧ Cond.initialized mX2_init.1.cls ∈ lw_gd ∧ (mX2_init.1.cls ≠ "java/lang/invoke/MethodHandle" ∧ mX2_init.1.cls ≠ "java/lang/invoke/VarHandle" ∧ (parseMethodDescriptor mX2_init.1.desc).map (fun d => d.parameters.length) = some 0) ∧ mX2_init.2.2.1 ≤ 80 := ⟨(px_in1 33 rfl rfl), (px_in1 2 rfl rfl), by decide +kernel, by decide⟩
set_option maxRecDepth 100000 in
theorem kd_X2_clear : Cond.code mX2_clear.1 mX2_clear.2.1 mX2_clear.2.2.1 mX2_clear.2.2.2 ∈ lw_gd ∧ Cond.initialized mX2_clear.1.cls ∈ lw_gd ∧ (mX2_clear.1.cls ≠ "java/lang/invoke/MethodHandle" ∧ mX2_clear.1.cls ≠ "java/lang/invoke/VarHandle" ∧ (parseMethodDescriptor mX2_clear.1.desc).map (fun d => d.parameters.length) = some 0) ∧ mX2_clear.2.2.1 ≤ 80 := ⟨(px_in1 61 rfl rfl), (px_in1 2 rfl rfl), by decide +kernel, by decide⟩
set_option maxRecDepth 100000 in
theorem kd_X2_allPeople : Cond.code mX2_allPeople.1 mX2_allPeople.2.1 mX2_allPeople.2.2.1 mX2_allPeople.2.2.2 ∈ lw_gd ∧ Cond.initialized mX2_allPeople.1.cls ∈ lw_gd ∧ (mX2_allPeople.1.cls ≠ "java/lang/invoke/MethodHandle" ∧ mX2_allPeople.1.cls ≠ "java/lang/invoke/VarHandle" ∧ (parseMethodDescriptor mX2_allPeople.1.desc).map (fun d => d.parameters.length) = some 0) ∧ mX2_allPeople.2.2.1 ≤ 80 := ⟨(px_in4 181 rfl rfl), (px_in1 2 rfl rfl), by decide +kernel, by decide⟩
set_option maxRecDepth 100000 in
theorem kd_X2_liesAbed : Cond.code mX2_liesAbed.1 mX2_liesAbed.2.1 mX2_liesAbed.2.2.1 mX2_liesAbed.2.2.2 ∈ lw_gd ∧ Cond.initialized mX2_liesAbed.1.cls ∈ lw_gd ∧ (mX2_liesAbed.1.cls ≠ "java/lang/invoke/MethodHandle" ∧ mX2_liesAbed.1.cls ≠ "java/lang/invoke/VarHandle" ∧ (parseMethodDescriptor mX2_liesAbed.1.desc).map (fun d => d.parameters.length) = some 2) ∧ mX2_liesAbed.2.2.1 ≤ 80 := ⟨(px_in3 224 rfl rfl), (px_in1 2 rfl rfl), by decide +kernel, by decide⟩
set_option maxRecDepth 100000 in
theorem kd_X2_abedBits : Cond.code mX2_abedBits.1 mX2_abedBits.2.1 mX2_abedBits.2.2.1 mX2_abedBits.2.2.2 ∈ lw_gd ∧ Cond.initialized mX2_abedBits.1.cls ∈ lw_gd ∧ (mX2_abedBits.1.cls ≠ "java/lang/invoke/MethodHandle" ∧ mX2_abedBits.1.cls ≠ "java/lang/invoke/VarHandle" ∧ (parseMethodDescriptor mX2_abedBits.1.desc).map (fun d => d.parameters.length) = some 1) ∧ mX2_abedBits.2.2.1 ≤ 80 := ⟨(px_in4 35 rfl rfl), (px_in1 2 rfl rfl), by decide +kernel, by decide⟩
set_option maxRecDepth 100000 in
theorem kd_X2_allLumps : Cond.code mX2_allLumps.1 mX2_allLumps.2.1 mX2_allLumps.2.2.1 mX2_allLumps.2.2.2 ∈ lw_gd ∧ Cond.initialized mX2_allLumps.1.cls ∈ lw_gd ∧ (mX2_allLumps.1.cls ≠ "java/lang/invoke/MethodHandle" ∧ mX2_allLumps.1.cls ≠ "java/lang/invoke/VarHandle" ∧ (parseMethodDescriptor mX2_allLumps.1.desc).map (fun d => d.parameters.length) = some 1) ∧ mX2_allLumps.2.2.1 ≤ 80 := ⟨(px_in4 142 rfl rfl), (px_in1 2 rfl rfl), by decide +kernel, by decide⟩
set_option maxRecDepth 100000 in
theorem kd_X2_allFirm : Cond.code mX2_allFirm.1 mX2_allFirm.2.1 mX2_allFirm.2.2.1 mX2_allFirm.2.2.2 ∈ lw_gd ∧ Cond.initialized mX2_allFirm.1.cls ∈ lw_gd ∧ (mX2_allFirm.1.cls ≠ "java/lang/invoke/MethodHandle" ∧ mX2_allFirm.1.cls ≠ "java/lang/invoke/VarHandle" ∧ (parseMethodDescriptor mX2_allFirm.1.desc).map (fun d => d.parameters.length) = some 1) ∧ mX2_allFirm.2.2.1 ≤ 80 := ⟨(px_in5 29 rfl rfl), (px_in1 2 rfl rfl), by decide +kernel, by decide⟩
set_option maxRecDepth 100000 in
theorem kd_X2_takesPlace : Cond.code mX2_takesPlace.1 mX2_takesPlace.2.1 mX2_takesPlace.2.2.1 mX2_takesPlace.2.2.2 ∈ lw_gd ∧ Cond.initialized mX2_takesPlace.1.cls ∈ lw_gd ∧ (mX2_takesPlace.1.cls ≠ "java/lang/invoke/MethodHandle" ∧ mX2_takesPlace.1.cls ≠ "java/lang/invoke/VarHandle" ∧ (parseMethodDescriptor mX2_takesPlace.1.desc).map (fun d => d.parameters.length) = some 2) ∧ mX2_takesPlace.2.2.1 ≤ 80 := ⟨(px_in4 48 rfl rfl), (px_in1 2 rfl rfl), by decide +kernel, by decide⟩
set_option maxRecDepth 100000 in
theorem kd_X2_coolOne : Cond.code mX2_coolOne.1 mX2_coolOne.2.1 mX2_coolOne.2.2.1 mX2_coolOne.2.2.2 ∈ lw_gd ∧ Cond.initialized mX2_coolOne.1.cls ∈ lw_gd ∧ (mX2_coolOne.1.cls ≠ "java/lang/invoke/MethodHandle" ∧ mX2_coolOne.1.cls ≠ "java/lang/invoke/VarHandle" ∧ (parseMethodDescriptor mX2_coolOne.1.desc).map (fun d => d.parameters.length) = some 3) ∧ mX2_coolOne.2.2.1 ≤ 80 := ⟨(px_in4 59 rfl rfl), (px_in1 2 rfl rfl), by decide +kernel, by decide⟩
set_option maxRecDepth 100000 in
theorem kd_X2_passDay : Cond.code mX2_passDay.1 mX2_passDay.2.1 mX2_passDay.2.2.1 mX2_passDay.2.2.2 ∈ lw_gd ∧ Cond.initialized mX2_passDay.1.cls ∈ lw_gd ∧ (mX2_passDay.1.cls ≠ "java/lang/invoke/MethodHandle" ∧ mX2_passDay.1.cls ≠ "java/lang/invoke/VarHandle" ∧ (parseMethodDescriptor mX2_passDay.1.desc).map (fun d => d.parameters.length) = some 3) ∧ mX2_passDay.2.2.1 ≤ 80 := ⟨(px_in4 44 rfl rfl), (px_in1 2 rfl rfl), by decide +kernel, by decide⟩
set_option maxRecDepth 100000 in
theorem kd_X2_meet : Cond.code mX2_meet.1 mX2_meet.2.1 mX2_meet.2.2.1 mX2_meet.2.2.2 ∈ lw_gd ∧ Cond.initialized mX2_meet.1.cls ∈ lw_gd ∧ (mX2_meet.1.cls ≠ "java/lang/invoke/MethodHandle" ∧ mX2_meet.1.cls ≠ "java/lang/invoke/VarHandle" ∧ (parseMethodDescriptor mX2_meet.1.desc).map (fun d => d.parameters.length) = some 3) ∧ mX2_meet.2.2.1 ≤ 80 := ⟨(px_in4 53 rfl rfl), (px_in1 2 rfl rfl), by decide +kernel, by decide⟩
set_option maxRecDepth 100000 in
theorem kd_X2_flare : Cond.code mX2_flare.1 mX2_flare.2.1 mX2_flare.2.2.1 mX2_flare.2.2.2 ∈ lw_gd ∧ Cond.initialized mX2_flare.1.cls ∈ lw_gd ∧ (mX2_flare.1.cls ≠ "java/lang/invoke/MethodHandle" ∧ mX2_flare.1.cls ≠ "java/lang/invoke/VarHandle" ∧ (parseMethodDescriptor mX2_flare.1.desc).map (fun d => d.parameters.length) = some 1) ∧ mX2_flare.2.2.1 ≤ 80 := ⟨(px_in4 64 rfl rfl), (px_in1 2 rfl rfl), by decide +kernel, by decide⟩
set_option maxRecDepth 100000 in
theorem kd_X3_init : Cond.code mX3_init.1 mX3_init.2.1 mX3_init.2.2.1 mX3_init.2.2.2 ∈ lw_gd ∧ Cond.initialized mX3_init.1.cls ∈ lw_gd ∧ (mX3_init.1.cls ≠ "java/lang/invoke/MethodHandle" ∧ mX3_init.1.cls ≠ "java/lang/invoke/VarHandle" ∧ (parseMethodDescriptor mX3_init.1.desc).map (fun d => d.parameters.length) = some 0) ∧ mX3_init.2.2.1 ≤ 80 := ⟨(px_in2 90 rfl rfl), (px_in1 11 rfl rfl), by decide +kernel, by decide⟩
set_option maxRecDepth 100000 in
theorem kd_X3_restart : Cond.code mX3_restart.1 mX3_restart.2.1 mX3_restart.2.2.1 mX3_restart.2.2.2 ∈ lw_gd ∧ Cond.initialized mX3_restart.1.cls ∈ lw_gd ∧ (mX3_restart.1.cls ≠ "java/lang/invoke/MethodHandle" ∧ mX3_restart.1.cls ≠ "java/lang/invoke/VarHandle" ∧ (parseMethodDescriptor mX3_restart.1.desc).map (fun d => d.parameters.length) = some 1) ∧ mX3_restart.2.2.1 ≤ 80 := ⟨(px_in3 200 rfl rfl), (px_in1 11 rfl rfl), by decide +kernel, by decide⟩
set_option maxRecDepth 100000 in
theorem kd_X3_keepAct : Cond.code mX3_keepAct.1 mX3_keepAct.2.1 mX3_keepAct.2.2.1 mX3_keepAct.2.2.2 ∈ lw_gd ∧ Cond.initialized mX3_keepAct.1.cls ∈ lw_gd ∧ (mX3_keepAct.1.cls ≠ "java/lang/invoke/MethodHandle" ∧ mX3_keepAct.1.cls ≠ "java/lang/invoke/VarHandle" ∧ (parseMethodDescriptor mX3_keepAct.1.desc).map (fun d => d.parameters.length) = some 1) ∧ mX3_keepAct.2.2.1 ≤ 80 := ⟨(px_in4 68 rfl rfl), (px_in1 11 rfl rfl), by decide +kernel, by decide⟩
set_option maxRecDepth 100000 in
theorem kd_X3_stepBack : Cond.code mX3_stepBack.1 mX3_stepBack.2.1 mX3_stepBack.2.2.1 mX3_stepBack.2.2.2 ∈ lw_gd ∧ Cond.initialized mX3_stepBack.1.cls ∈ lw_gd ∧ (mX3_stepBack.1.cls ≠ "java/lang/invoke/MethodHandle" ∧ mX3_stepBack.1.cls ≠ "java/lang/invoke/VarHandle" ∧ (parseMethodDescriptor mX3_stepBack.1.desc).map (fun d => d.parameters.length) = some 1) ∧ mX3_stepBack.2.2.1 ≤ 80 := ⟨(px_in4 98 rfl rfl), (px_in1 11 rfl rfl), by decide +kernel, by decide⟩
set_option maxRecDepth 100000 in
theorem kd_X3_stepOn : Cond.code mX3_stepOn.1 mX3_stepOn.2.1 mX3_stepOn.2.2.1 mX3_stepOn.2.2.2 ∈ lw_gd ∧ Cond.initialized mX3_stepOn.1.cls ∈ lw_gd ∧ (mX3_stepOn.1.cls ≠ "java/lang/invoke/MethodHandle" ∧ mX3_stepOn.1.cls ≠ "java/lang/invoke/VarHandle" ∧ (parseMethodDescriptor mX3_stepOn.1.desc).map (fun d => d.parameters.length) = some 1) ∧ mX3_stepOn.2.2.1 ≤ 80 := ⟨(px_in4 110 rfl rfl), (px_in1 11 rfl rfl), by decide +kernel, by decide⟩
set_option maxRecDepth 100000 in
theorem kd_X3_undoable : Cond.code mX3_undoable.1 mX3_undoable.2.1 mX3_undoable.2.2.1 mX3_undoable.2.2.2 ∈ lw_gd ∧ Cond.initialized mX3_undoable.1.cls ∈ lw_gd ∧ (mX3_undoable.1.cls ≠ "java/lang/invoke/MethodHandle" ∧ mX3_undoable.1.cls ≠ "java/lang/invoke/VarHandle" ∧ (parseMethodDescriptor mX3_undoable.1.desc).map (fun d => d.parameters.length) = some 0) ∧ mX3_undoable.2.2.1 ≤ 80 := ⟨(px_in5 201 rfl rfl), (px_in1 11 rfl rfl), by decide +kernel, by decide⟩
set_option maxRecDepth 100000 in
theorem kd_X3_redoable : Cond.code mX3_redoable.1 mX3_redoable.2.1 mX3_redoable.2.2.1 mX3_redoable.2.2.2 ∈ lw_gd ∧ Cond.initialized mX3_redoable.1.cls ∈ lw_gd ∧ (mX3_redoable.1.cls ≠ "java/lang/invoke/MethodHandle" ∧ mX3_redoable.1.cls ≠ "java/lang/invoke/VarHandle" ∧ (parseMethodDescriptor mX3_redoable.1.desc).map (fun d => d.parameters.length) = some 0) ∧ mX3_redoable.2.2.1 ≤ 80 := ⟨(px_in5 205 rfl rfl), (px_in1 11 rfl rfl), by decide +kernel, by decide⟩
set_option maxRecDepth 100000 in
theorem kd_X4_init : Cond.code mX4_init.1 mX4_init.2.1 mX4_init.2.2.1 mX4_init.2.2.2 ∈ lw_gd ∧ Cond.initialized mX4_init.1.cls ∈ lw_gd ∧ (mX4_init.1.cls ≠ "java/lang/invoke/MethodHandle" ∧ mX4_init.1.cls ≠ "java/lang/invoke/VarHandle" ∧ (parseMethodDescriptor mX4_init.1.desc).map (fun d => d.parameters.length) = some 0) ∧ mX4_init.2.2.1 ≤ 80 := ⟨(px_in2 106 rfl rfl), (px_in1 12 rfl rfl), by decide +kernel, by decide⟩
set_option maxRecDepth 100000 in
theorem kd_X4_lumpsBehind : Cond.code mX4_lumpsBehind.1 mX4_lumpsBehind.2.1 mX4_lumpsBehind.2.2.1 mX4_lumpsBehind.2.2.2 ∈ lw_gd ∧ Cond.initialized mX4_lumpsBehind.1.cls ∈ lw_gd ∧ (mX4_lumpsBehind.1.cls ≠ "java/lang/invoke/MethodHandle" ∧ mX4_lumpsBehind.1.cls ≠ "java/lang/invoke/VarHandle" ∧ (parseMethodDescriptor mX4_lumpsBehind.1.desc).map (fun d => d.parameters.length) = some 5) ∧ mX4_lumpsBehind.2.2.1 ≤ 80 := ⟨(px_in4 121 rfl rfl), (px_in1 12 rfl rfl), by decide +kernel, by decide⟩
set_option maxRecDepth 100000 in
theorem kd_X4_firmBehind : Cond.code mX4_firmBehind.1 mX4_firmBehind.2.1 mX4_firmBehind.2.2.1 mX4_firmBehind.2.2.2 ∈ lw_gd ∧ Cond.initialized mX4_firmBehind.1.cls ∈ lw_gd ∧ (mX4_firmBehind.1.cls ≠ "java/lang/invoke/MethodHandle" ∧ mX4_firmBehind.1.cls ≠ "java/lang/invoke/VarHandle" ∧ (parseMethodDescriptor mX4_firmBehind.1.desc).map (fun d => d.parameters.length) = some 4) ∧ mX4_firmBehind.2.2.1 ≤ 80 := ⟨(px_in4 134 rfl rfl), (px_in1 12 rfl rfl), by decide +kernel, by decide⟩
set_option maxRecDepth 100000 in
theorem kd_X4_hurtBehind : Cond.code mX4_hurtBehind.1 mX4_hurtBehind.2.1 mX4_hurtBehind.2.2.1 mX4_hurtBehind.2.2.2 ∈ lw_gd ∧ Cond.initialized mX4_hurtBehind.1.cls ∈ lw_gd ∧ (mX4_hurtBehind.1.cls ≠ "java/lang/invoke/MethodHandle" ∧ mX4_hurtBehind.1.cls ≠ "java/lang/invoke/VarHandle" ∧ (parseMethodDescriptor mX4_hurtBehind.1.desc).map (fun d => d.parameters.length) = some 3) ∧ mX4_hurtBehind.2.2.1 ≤ 80 := ⟨(px_in4 150 rfl rfl), (px_in1 12 rfl rfl), by decide +kernel, by decide⟩
set_option maxRecDepth 100000 in
theorem kd_X4_daysTillAbed : Cond.code mX4_daysTillAbed.1 mX4_daysTillAbed.2.1 mX4_daysTillAbed.2.2.1 mX4_daysTillAbed.2.2.2 ∈ lw_gd ∧ Cond.initialized mX4_daysTillAbed.1.cls ∈ lw_gd ∧ (mX4_daysTillAbed.1.cls ≠ "java/lang/invoke/MethodHandle" ∧ mX4_daysTillAbed.1.cls ≠ "java/lang/invoke/VarHandle" ∧ (parseMethodDescriptor mX4_daysTillAbed.1.desc).map (fun d => d.parameters.length) = some 4) ∧ mX4_daysTillAbed.2.2.1 ≤ 80 := ⟨(px_in4 158 rfl rfl), (px_in1 12 rfl rfl), by decide +kernel, by decide⟩
set_option maxRecDepth 100000 in
theorem kd_X4_leastToForbid : Cond.code mX4_leastToForbid.1 mX4_leastToForbid.2.1 mX4_leastToForbid.2.2.1 mX4_leastToForbid.2.2.2 ∈ lw_gd ∧ Cond.initialized mX4_leastToForbid.1.cls ∈ lw_gd ∧ (mX4_leastToForbid.1.cls ≠ "java/lang/invoke/MethodHandle" ∧ mX4_leastToForbid.1.cls ≠ "java/lang/invoke/VarHandle" ∧ (parseMethodDescriptor mX4_leastToForbid.1.desc).map (fun d => d.parameters.length) = some 3) ∧ mX4_leastToForbid.2.2.1 ≤ 80 := ⟨(px_in4 171 rfl rfl), (px_in1 12 rfl rfl), by decide +kernel, by decide⟩
set_option maxRecDepth 100000 in
theorem kd_X4_bestOrder : Cond.code mX4_bestOrder.1 mX4_bestOrder.2.1 mX4_bestOrder.2.2.1 mX4_bestOrder.2.2.2 ∈ lw_gd ∧ Cond.initialized mX4_bestOrder.1.cls ∈ lw_gd ∧ (mX4_bestOrder.1.cls ≠ "java/lang/invoke/MethodHandle" ∧ mX4_bestOrder.1.cls ≠ "java/lang/invoke/VarHandle" ∧ (parseMethodDescriptor mX4_bestOrder.1.desc).map (fun d => d.parameters.length) = some 5) ∧ mX4_bestOrder.2.2.1 ≤ 80 := ⟨(px_in4 190 rfl rfl), (px_in1 12 rfl rfl), by decide +kernel, by decide⟩
set_option maxRecDepth 100000 in
theorem kd_X4_leastGrip : Cond.code mX4_leastGrip.1 mX4_leastGrip.2.1 mX4_leastGrip.2.2.1 mX4_leastGrip.2.2.2 ∈ lw_gd ∧ Cond.initialized mX4_leastGrip.1.cls ∈ lw_gd ∧ (mX4_leastGrip.1.cls ≠ "java/lang/invoke/MethodHandle" ∧ mX4_leastGrip.1.cls ≠ "java/lang/invoke/VarHandle" ∧ (parseMethodDescriptor mX4_leastGrip.1.desc).map (fun d => d.parameters.length) = some 4) ∧ mX4_leastGrip.2.2.1 ≤ 80 := ⟨(px_in4 213 rfl rfl), (px_in1 12 rfl rfl), by decide +kernel, by decide⟩
set_option maxRecDepth 100000 in
theorem kd_X4_choosePupil : Cond.code mX4_choosePupil.1 mX4_choosePupil.2.1 mX4_choosePupil.2.2.1 mX4_choosePupil.2.2.2 ∈ lw_gd ∧ Cond.initialized mX4_choosePupil.1.cls ∈ lw_gd ∧ (mX4_choosePupil.1.cls ≠ "java/lang/invoke/MethodHandle" ∧ mX4_choosePupil.1.cls ≠ "java/lang/invoke/VarHandle" ∧ (parseMethodDescriptor mX4_choosePupil.1.desc).map (fun d => d.parameters.length) = some 3) ∧ mX4_choosePupil.2.2.1 ≤ 80 := ⟨(px_in4 221 rfl rfl), (px_in1 12 rfl rfl), by decide +kernel, by decide⟩
set_option maxRecDepth 100000 in
theorem kd_X4_chooseScourge : Cond.code mX4_chooseScourge.1 mX4_chooseScourge.2.1 mX4_chooseScourge.2.2.1 mX4_chooseScourge.2.2.2 ∈ lw_gd ∧ Cond.initialized mX4_chooseScourge.1.cls ∈ lw_gd ∧ (mX4_chooseScourge.1.cls ≠ "java/lang/invoke/MethodHandle" ∧ mX4_chooseScourge.1.cls ≠ "java/lang/invoke/VarHandle" ∧ (parseMethodDescriptor mX4_chooseScourge.1.desc).map (fun d => d.parameters.length) = some 3) ∧ mX4_chooseScourge.2.2.1 ≤ 80 := ⟨(px_in5 49 rfl rfl), (px_in1 12 rfl rfl), by decide +kernel, by decide⟩
set_option maxRecDepth 100000 in
theorem kd_X4_chooseRelief : Cond.code mX4_chooseRelief.1 mX4_chooseRelief.2.1 mX4_chooseRelief.2.2.1 mX4_chooseRelief.2.2.2 ∈ lw_gd ∧ Cond.initialized mX4_chooseRelief.1.cls ∈ lw_gd ∧ (mX4_chooseRelief.1.cls ≠ "java/lang/invoke/MethodHandle" ∧ mX4_chooseRelief.1.cls ≠ "java/lang/invoke/VarHandle" ∧ (parseMethodDescriptor mX4_chooseRelief.1.desc).map (fun d => d.parameters.length) = some 4) ∧ mX4_chooseRelief.2.2.1 ≤ 80 := ⟨(px_in5 57 rfl rfl), (px_in1 12 rfl rfl), by decide +kernel, by decide⟩
set_option maxRecDepth 100000 in
theorem kd_X4_hurtIfAllAre : Cond.code mX4_hurtIfAllAre.1 mX4_hurtIfAllAre.2.1 mX4_hurtIfAllAre.2.2.1 mX4_hurtIfAllAre.2.2.2 ∈ lw_gd ∧ Cond.initialized mX4_hurtIfAllAre.1.cls ∈ lw_gd ∧ (mX4_hurtIfAllAre.1.cls ≠ "java/lang/invoke/MethodHandle" ∧ mX4_hurtIfAllAre.1.cls ≠ "java/lang/invoke/VarHandle" ∧ (parseMethodDescriptor mX4_hurtIfAllAre.1.desc).map (fun d => d.parameters.length) = some 4) ∧ mX4_hurtIfAllAre.2.2.1 ≤ 80 := ⟨(px_in5 93 rfl rfl), (px_in1 12 rfl rfl), by decide +kernel, by decide⟩
set_option maxRecDepth 100000 in
theorem kd_X4_daysTillMeeting : Cond.code mX4_daysTillMeeting.1 mX4_daysTillMeeting.2.1 mX4_daysTillMeeting.2.2.1 mX4_daysTillMeeting.2.2.2 ∈ lw_gd ∧ Cond.initialized mX4_daysTillMeeting.1.cls ∈ lw_gd ∧ (mX4_daysTillMeeting.1.cls ≠ "java/lang/invoke/MethodHandle" ∧ mX4_daysTillMeeting.1.cls ≠ "java/lang/invoke/VarHandle" ∧ (parseMethodDescriptor mX4_daysTillMeeting.1.desc).map (fun d => d.parameters.length) = some 4) ∧ mX4_daysTillMeeting.2.2.1 ≤ 80 := ⟨(px_in5 104 rfl rfl), (px_in1 12 rfl rfl), by decide +kernel, by decide⟩
set_option maxRecDepth 100000 in
theorem kd_X4_daysTillSettled : Cond.code mX4_daysTillSettled.1 mX4_daysTillSettled.2.1 mX4_daysTillSettled.2.2.1 mX4_daysTillSettled.2.2.2 ∈ lw_gd ∧ Cond.initialized mX4_daysTillSettled.1.cls ∈ lw_gd ∧ (mX4_daysTillSettled.1.cls ≠ "java/lang/invoke/MethodHandle" ∧ mX4_daysTillSettled.1.cls ≠ "java/lang/invoke/VarHandle" ∧ (parseMethodDescriptor mX4_daysTillSettled.1.desc).map (fun d => d.parameters.length) = some 3) ∧ mX4_daysTillSettled.2.2.1 ≤ 80 := ⟨(px_in5 25 rfl rfl), (px_in1 12 rfl rfl), by decide +kernel, by decide⟩
set_option maxRecDepth 100000 in
theorem kd_X4_isRest : Cond.code mX4_isRest.1 mX4_isRest.2.1 mX4_isRest.2.2.1 mX4_isRest.2.2.2 ∈ lw_gd ∧ Cond.initialized mX4_isRest.1.cls ∈ lw_gd ∧ (mX4_isRest.1.cls ≠ "java/lang/invoke/MethodHandle" ∧ mX4_isRest.1.cls ≠ "java/lang/invoke/VarHandle" ∧ (parseMethodDescriptor mX4_isRest.1.desc).map (fun d => d.parameters.length) = some 5) ∧ mX4_isRest.2.2.1 ≤ 80 := ⟨(px_in5 37 rfl rfl), (px_in1 12 rfl rfl), by decide +kernel, by decide⟩
set_option maxRecDepth 100000 in
theorem kd_X4_worth : Cond.code mX4_worth.1 mX4_worth.2.1 mX4_worth.2.2.1 mX4_worth.2.2.2 ∈ lw_gd ∧ Cond.initialized mX4_worth.1.cls ∈ lw_gd ∧ (mX4_worth.1.cls ≠ "java/lang/invoke/MethodHandle" ∧ mX4_worth.1.cls ≠ "java/lang/invoke/VarHandle" ∧ (parseMethodDescriptor mX4_worth.1.desc).map (fun d => d.parameters.length) = some 6) ∧ mX4_worth.2.2.1 ≤ 80 := ⟨(px_in5 40 rfl rfl), (px_in1 12 rfl rfl), by decide +kernel, by decide⟩
set_option maxRecDepth 100000 in
theorem kd_X4_goOn : Cond.code mX4_goOn.1 mX4_goOn.2.1 mX4_goOn.2.2.1 mX4_goOn.2.2.2 ∈ lw_gd ∧ Cond.initialized mX4_goOn.1.cls ∈ lw_gd ∧ (mX4_goOn.1.cls ≠ "java/lang/invoke/MethodHandle" ∧ mX4_goOn.1.cls ≠ "java/lang/invoke/VarHandle" ∧ (parseMethodDescriptor mX4_goOn.1.desc).map (fun d => d.parameters.length) = some 3) ∧ mX4_goOn.2.2.1 ≤ 80 := ⟨(px_in4 138 rfl rfl), (px_in1 12 rfl rfl), by decide +kernel, by decide⟩
set_option maxRecDepth 100000 in
theorem kd_X4_goOnTillAbed : Cond.code mX4_goOnTillAbed.1 mX4_goOnTillAbed.2.1 mX4_goOnTillAbed.2.2.1 mX4_goOnTillAbed.2.2.2 ∈ lw_gd ∧ Cond.initialized mX4_goOnTillAbed.1.cls ∈ lw_gd ∧ (mX4_goOnTillAbed.1.cls ≠ "java/lang/invoke/MethodHandle" ∧ mX4_goOnTillAbed.1.cls ≠ "java/lang/invoke/VarHandle" ∧ (parseMethodDescriptor mX4_goOnTillAbed.1.desc).map (fun d => d.parameters.length) = some 3) ∧ mX4_goOnTillAbed.2.2.1 ≤ 80 := ⟨(px_in4 162 rfl rfl), (px_in1 12 rfl rfl), by decide +kernel, by decide⟩
set_option maxRecDepth 100000 in
theorem kd_X4_weigh : Cond.code mX4_weigh.1 mX4_weigh.2.1 mX4_weigh.2.2.1 mX4_weigh.2.2.2 ∈ lw_gd ∧ Cond.initialized mX4_weigh.1.cls ∈ lw_gd ∧ (mX4_weigh.1.cls ≠ "java/lang/invoke/MethodHandle" ∧ mX4_weigh.1.cls ≠ "java/lang/invoke/VarHandle" ∧ (parseMethodDescriptor mX4_weigh.1.desc).map (fun d => d.parameters.length) = some 2) ∧ mX4_weigh.2.2.1 ≤ 80 := ⟨(px_in4 225 rfl rfl), (px_in1 12 rfl rfl), by decide +kernel, by decide⟩
set_option maxRecDepth 100000 in
theorem kd_X4_sortFromLeast : Cond.code mX4_sortFromLeast.1 mX4_sortFromLeast.2.1 mX4_sortFromLeast.2.2.1 mX4_sortFromLeast.2.2.2 ∈ lw_gd ∧ Cond.initialized mX4_sortFromLeast.1.cls ∈ lw_gd ∧ (mX4_sortFromLeast.1.cls ≠ "java/lang/invoke/MethodHandle" ∧ mX4_sortFromLeast.1.cls ≠ "java/lang/invoke/VarHandle" ∧ (parseMethodDescriptor mX4_sortFromLeast.1.desc).map (fun d => d.parameters.length) = some 2) ∧ mX4_sortFromLeast.2.2.1 ≤ 80 := ⟨(px_in4 195 rfl rfl), (px_in1 12 rfl rfl), by decide +kernel, by decide⟩
set_option maxRecDepth 100000 in
theorem kd_X4_turnToNextOrder : Cond.code mX4_turnToNextOrder.1 mX4_turnToNextOrder.2.1 mX4_turnToNextOrder.2.2.1 mX4_turnToNextOrder.2.2.2 ∈ lw_gd ∧ Cond.initialized mX4_turnToNextOrder.1.cls ∈ lw_gd ∧ (mX4_turnToNextOrder.1.cls ≠ "java/lang/invoke/MethodHandle" ∧ mX4_turnToNextOrder.1.cls ≠ "java/lang/invoke/VarHandle" ∧ (parseMethodDescriptor mX4_turnToNextOrder.1.desc).map (fun d => d.parameters.length) = some 2) ∧ mX4_turnToNextOrder.2.2.1 ≤ 80 := ⟨(px_in4 205 rfl rfl), (px_in1 12 rfl rfl), by decide +kernel, by decide⟩
set_option maxRecDepth 100000 in
theorem kd_X4_swapTried : Cond.code mX4_swapTried.1 mX4_swapTried.2.1 mX4_swapTried.2.2.1 mX4_swapTried.2.2.2 ∈ lw_gd ∧ Cond.initialized mX4_swapTried.1.cls ∈ lw_gd ∧ (mX4_swapTried.1.cls ≠ "java/lang/invoke/MethodHandle" ∧ mX4_swapTried.1.cls ≠ "java/lang/invoke/VarHandle" ∧ (parseMethodDescriptor mX4_swapTried.1.desc).map (fun d => d.parameters.length) = some 2) ∧ mX4_swapTried.2.2.1 ≤ 80 := ⟨(px_in4 199 rfl rfl), (px_in1 12 rfl rfl), by decide +kernel, by decide⟩
set_option maxRecDepth 100000 in
theorem kd_X5_init : Cond.code mX5_init.1 mX5_init.2.1 mX5_init.2.2.1 mX5_init.2.2.2 ∈ lw_gd ∧ Cond.initialized mX5_init.1.cls ∈ lw_gd ∧ (mX5_init.1.cls ≠ "java/lang/invoke/MethodHandle" ∧ mX5_init.1.cls ≠ "java/lang/invoke/VarHandle" ∧ (parseMethodDescriptor mX5_init.1.desc).map (fun d => d.parameters.length) = some 0) ∧ mX5_init.2.2.1 ≤ 80 := ⟨(px_in1 172 rfl rfl), (px_in1 4 rfl rfl), by decide +kernel, by decide⟩
set_option maxRecDepth 100000 in
theorem kd_X5_read : Cond.code mX5_read.1 mX5_read.2.1 mX5_read.2.2.1 mX5_read.2.2.2 ∈ lw_gd ∧ Cond.initialized mX5_read.1.cls ∈ lw_gd ∧ (mX5_read.1.cls ≠ "java/lang/invoke/MethodHandle" ∧ mX5_read.1.cls ≠ "java/lang/invoke/VarHandle" ∧ (parseMethodDescriptor mX5_read.1.desc).map (fun d => d.parameters.length) = some 2) ∧ mX5_read.2.2.1 ≤ 80 := ⟨(px_in3 8 rfl rfl), (px_in1 4 rfl rfl), by decide +kernel, by decide⟩
set_option maxRecDepth 100000 in
theorem kd_X5_swapDraft : Cond.code mX5_swapDraft.1 mX5_swapDraft.2.1 mX5_swapDraft.2.2.1 mX5_swapDraft.2.2.2 ∈ lw_gd ∧ Cond.initialized mX5_swapDraft.1.cls ∈ lw_gd ∧ (mX5_swapDraft.1.cls ≠ "java/lang/invoke/MethodHandle" ∧ mX5_swapDraft.1.cls ≠ "java/lang/invoke/VarHandle" ∧ (parseMethodDescriptor mX5_swapDraft.1.desc).map (fun d => d.parameters.length) = some 1) ∧ mX5_swapDraft.2.2.1 ≤ 80 := ⟨(px_in3 189 rfl rfl), (px_in1 4 rfl rfl), by decide +kernel, by decide⟩
set_option maxRecDepth 100000 in
theorem kd_X5_readLine : Cond.code mX5_readLine.1 mX5_readLine.2.1 mX5_readLine.2.2.1 mX5_readLine.2.2.2 ∈ lw_gd ∧ Cond.initialized mX5_readLine.1.cls ∈ lw_gd ∧ (mX5_readLine.1.cls ≠ "java/lang/invoke/MethodHandle" ∧ mX5_readLine.1.cls ≠ "java/lang/invoke/VarHandle" ∧ (parseMethodDescriptor mX5_readLine.1.desc).map (fun d => d.parameters.length) = some 0) ∧ mX5_readLine.2.2.1 ≤ 80 := ⟨(px_in3 94 rfl rfl), (px_in1 4 rfl rfl), by decide +kernel, by decide⟩
set_option maxRecDepth 100000 in
theorem kd_X5_readPerson : Cond.code mX5_readPerson.1 mX5_readPerson.2.1 mX5_readPerson.2.2.1 mX5_readPerson.2.2.2 ∈ lw_gd ∧ Cond.initialized mX5_readPerson.1.cls ∈ lw_gd ∧ (mX5_readPerson.1.cls ≠ "java/lang/invoke/MethodHandle" ∧ mX5_readPerson.1.cls ≠ "java/lang/invoke/VarHandle" ∧ (parseMethodDescriptor mX5_readPerson.1.desc).map (fun d => d.parameters.length) = some 0) ∧ mX5_readPerson.2.2.1 ≤ 80 := ⟨(px_in3 106 rfl rfl), (px_in1 4 rfl rfl), by decide +kernel, by decide⟩
set_option maxRecDepth 100000 in
theorem kd_X5_readMeeting : Cond.code mX5_readMeeting.1 mX5_readMeeting.2.1 mX5_readMeeting.2.2.1 mX5_readMeeting.2.2.2 ∈ lw_gd ∧ Cond.initialized mX5_readMeeting.1.cls ∈ lw_gd ∧ (mX5_readMeeting.1.cls ≠ "java/lang/invoke/MethodHandle" ∧ mX5_readMeeting.1.cls ≠ "java/lang/invoke/VarHandle" ∧ (parseMethodDescriptor mX5_readMeeting.1.desc).map (fun d => d.parameters.length) = some 0) ∧ mX5_readMeeting.2.2.1 ≤ 80 := ⟨(px_in3 139 rfl rfl), (px_in1 4 rfl rfl), by decide +kernel, by decide⟩
set_option maxRecDepth 100000 in
theorem kd_X5_readBrother : Cond.code mX5_readBrother.1 mX5_readBrother.2.1 mX5_readBrother.2.2.1 mX5_readBrother.2.2.2 ∈ lw_gd ∧ Cond.initialized mX5_readBrother.1.cls ∈ lw_gd ∧ (mX5_readBrother.1.cls ≠ "java/lang/invoke/MethodHandle" ∧ mX5_readBrother.1.cls ≠ "java/lang/invoke/VarHandle" ∧ (parseMethodDescriptor mX5_readBrother.1.desc).map (fun d => d.parameters.length) = some 0) ∧ mX5_readBrother.2.2.1 ≤ 80 := ⟨(px_in3 147 rfl rfl), (px_in1 4 rfl rfl), by decide +kernel, by decide⟩
set_option maxRecDepth 100000 in
theorem kd_X5_readRound : Cond.code mX5_readRound.1 mX5_readRound.2.1 mX5_readRound.2.2.1 mX5_readRound.2.2.2 ∈ lw_gd ∧ Cond.initialized mX5_readRound.1.cls ∈ lw_gd ∧ (mX5_readRound.1.cls ≠ "java/lang/invoke/MethodHandle" ∧ mX5_readRound.1.cls ≠ "java/lang/invoke/VarHandle" ∧ (parseMethodDescriptor mX5_readRound.1.desc).map (fun d => d.parameters.length) = some 1) ∧ mX5_readRound.2.2.1 ≤ 80 := ⟨(px_in3 151 rfl rfl), (px_in1 4 rfl rfl), by decide +kernel, by decide⟩
set_option maxRecDepth 100000 in
theorem kd_X5_readFormula : Cond.code mX5_readFormula.1 mX5_readFormula.2.1 mX5_readFormula.2.2.1 mX5_readFormula.2.2.2 ∈ lw_gd ∧ Cond.initialized mX5_readFormula.1.cls ∈ lw_gd ∧ (mX5_readFormula.1.cls ≠ "java/lang/invoke/MethodHandle" ∧ mX5_readFormula.1.cls ≠ "java/lang/invoke/VarHandle" ∧ (parseMethodDescriptor mX5_readFormula.1.desc).map (fun d => d.parameters.length) = some 0) ∧ mX5_readFormula.2.2.1 ≤ 80 := ⟨(px_in3 155 rfl rfl), (px_in1 4 rfl rfl), by decide +kernel, by decide⟩
set_option maxRecDepth 100000 in
theorem kd_X5_readSetting : Cond.code mX5_readSetting.1 mX5_readSetting.2.1 mX5_readSetting.2.2.1 mX5_readSetting.2.2.2 ∈ lw_gd ∧ Cond.initialized mX5_readSetting.1.cls ∈ lw_gd ∧ (mX5_readSetting.1.cls ≠ "java/lang/invoke/MethodHandle" ∧ mX5_readSetting.1.cls ≠ "java/lang/invoke/VarHandle" ∧ (parseMethodDescriptor mX5_readSetting.1.desc).map (fun d => d.parameters.length) = some 3) ∧ mX5_readSetting.2.2.1 ≤ 80 := ⟨(px_in3 185 rfl rfl), (px_in1 4 rfl rfl), by decide +kernel, by decide⟩
set_option maxRecDepth 100000 in
theorem kd_X5_isFirstTime : Cond.code mX5_isFirstTime.1 mX5_isFirstTime.2.1 mX5_isFirstTime.2.2.1 mX5_isFirstTime.2.2.2 ∈ lw_gd ∧ Cond.initialized mX5_isFirstTime.1.cls ∈ lw_gd ∧ (mX5_isFirstTime.1.cls ≠ "java/lang/invoke/MethodHandle" ∧ mX5_isFirstTime.1.cls ≠ "java/lang/invoke/VarHandle" ∧ (parseMethodDescriptor mX5_isFirstTime.1.desc).map (fun d => d.parameters.length) = some 1) ∧ mX5_isFirstTime.2.2.1 ≤ 80 := ⟨(px_in3 159 rfl rfl), (px_in1 4 rfl rfl), by decide +kernel, by decide⟩
set_option maxRecDepth 100000 in
theorem kd_X5_readChain : Cond.code mX5_readChain.1 mX5_readChain.2.1 mX5_readChain.2.2.1 mX5_readChain.2.2.2 ∈ lw_gd ∧ Cond.initialized mX5_readChain.1.cls ∈ lw_gd ∧ (mX5_readChain.1.cls ≠ "java/lang/invoke/MethodHandle" ∧ mX5_readChain.1.cls ≠ "java/lang/invoke/VarHandle" ∧ (parseMethodDescriptor mX5_readChain.1.desc).map (fun d => d.parameters.length) = some 2) ∧ mX5_readChain.2.2.1 ≤ 80 := ⟨(px_in3 164 rfl rfl), (px_in1 4 rfl rfl), by decide +kernel, by decide⟩
set_option maxRecDepth 100000 in
theorem kd_X5_readNot : Cond.code mX5_readNot.1 mX5_readNot.2.1 mX5_readNot.2.2.1 mX5_readNot.2.2.2 ∈ lw_gd ∧ Cond.initialized mX5_readNot.1.cls ∈ lw_gd ∧ (mX5_readNot.1.cls ≠ "java/lang/invoke/MethodHandle" ∧ mX5_readNot.1.cls ≠ "java/lang/invoke/VarHandle" ∧ (parseMethodDescriptor mX5_readNot.1.desc).map (fun d => d.parameters.length) = some 1) ∧ mX5_readNot.2.2.1 ≤ 80 := ⟨(px_in3 177 rfl rfl), (px_in1 4 rfl rfl), by decide +kernel, by decide⟩
set_option maxRecDepth 100000 in
theorem kd_X5_readUnit : Cond.code mX5_readUnit.1 mX5_readUnit.2.1 mX5_readUnit.2.2.1 mX5_readUnit.2.2.2 ∈ lw_gd ∧ Cond.initialized mX5_readUnit.1.cls ∈ lw_gd ∧ (mX5_readUnit.1.cls ≠ "java/lang/invoke/MethodHandle" ∧ mX5_readUnit.1.cls ≠ "java/lang/invoke/VarHandle" ∧ (parseMethodDescriptor mX5_readUnit.1.desc).map (fun d => d.parameters.length) = some 1) ∧ mX5_readUnit.2.2.1 ≤ 80 := ⟨(px_in3 168 rfl rfl), (px_in1 4 rfl rfl), by decide +kernel, by decide⟩
set_option maxRecDepth 100000 in
theorem kd_X5_unitAt : Cond.code mX5_unitAt.1 mX5_unitAt.2.1 mX5_unitAt.2.2.1 mX5_unitAt.2.2.2 ∈ lw_gd ∧ Cond.initialized mX5_unitAt.1.cls ∈ lw_gd ∧ (mX5_unitAt.1.cls ≠ "java/lang/invoke/MethodHandle" ∧ mX5_unitAt.1.cls ≠ "java/lang/invoke/VarHandle" ∧ (parseMethodDescriptor mX5_unitAt.1.desc).map (fun d => d.parameters.length) = some 0) ∧ mX5_unitAt.2.2.1 ≤ 80 := ⟨(px_in3 172 rfl rfl), (px_in1 4 rfl rfl), by decide +kernel, by decide⟩
set_option maxRecDepth 100000 in
theorem kd_X5_operatorAt : Cond.code mX5_operatorAt.1 mX5_operatorAt.2.1 mX5_operatorAt.2.2.1 mX5_operatorAt.2.2.2 ∈ lw_gd ∧ Cond.initialized mX5_operatorAt.1.cls ∈ lw_gd ∧ (mX5_operatorAt.1.cls ≠ "java/lang/invoke/MethodHandle" ∧ mX5_operatorAt.1.cls ≠ "java/lang/invoke/VarHandle" ∧ (parseMethodDescriptor mX5_operatorAt.1.desc).map (fun d => d.parameters.length) = some 1) ∧ mX5_operatorAt.2.2.1 ≤ 80 := ⟨(px_in3 181 rfl rfl), (px_in1 4 rfl rfl), by decide +kernel, by decide⟩
set_option maxRecDepth 100000 in
theorem kd_X5_readNewName : Cond.code mX5_readNewName.1 mX5_readNewName.2.1 mX5_readNewName.2.2.1 mX5_readNewName.2.2.2 ∈ lw_gd ∧ Cond.initialized mX5_readNewName.1.cls ∈ lw_gd ∧ (mX5_readNewName.1.cls ≠ "java/lang/invoke/MethodHandle" ∧ mX5_readNewName.1.cls ≠ "java/lang/invoke/VarHandle" ∧ (parseMethodDescriptor mX5_readNewName.1.desc).map (fun d => d.parameters.length) = some 2) ∧ mX5_readNewName.2.2.1 ≤ 80 := ⟨(px_in3 111 rfl rfl), (px_in1 4 rfl rfl), by decide +kernel, by decide⟩
set_option maxRecDepth 100000 in
theorem kd_X5_readPersonNotIn : Cond.code mX5_readPersonNotIn.1 mX5_readPersonNotIn.2.1 mX5_readPersonNotIn.2.2.1 mX5_readPersonNotIn.2.2.2 ∈ lw_gd ∧ Cond.initialized mX5_readPersonNotIn.1.cls ∈ lw_gd ∧ (mX5_readPersonNotIn.1.cls ≠ "java/lang/invoke/MethodHandle" ∧ mX5_readPersonNotIn.1.cls ≠ "java/lang/invoke/VarHandle" ∧ (parseMethodDescriptor mX5_readPersonNotIn.1.desc).map (fun d => d.parameters.length) = some 1) ∧ mX5_readPersonNotIn.2.2.1 ≤ 80 := ⟨(px_in3 143 rfl rfl), (px_in1 4 rfl rfl), by decide +kernel, by decide⟩
set_option maxRecDepth 100000 in
theorem kd_X5_indexOf : Cond.code mX5_indexOf.1 mX5_indexOf.2.1 mX5_indexOf.2.2.1 mX5_indexOf.2.2.2 ∈ lw_gd ∧ Cond.initialized mX5_indexOf.1.cls ∈ lw_gd ∧ (mX5_indexOf.1.cls ≠ "java/lang/invoke/MethodHandle" ∧ mX5_indexOf.1.cls ≠ "java/lang/invoke/VarHandle" ∧ (parseMethodDescriptor mX5_indexOf.1.desc).map (fun d => d.parameters.length) = some 2) ∧ mX5_indexOf.2.2.1 ≤ 80 := ⟨(px_in3 115 rfl rfl), (px_in1 4 rfl rfl), by decide +kernel, by decide⟩
set_option maxRecDepth 100000 in
theorem kd_X5_readNumberBehind : Cond.code mX5_readNumberBehind.1 mX5_readNumberBehind.2.1 mX5_readNumberBehind.2.2.1 mX5_readNumberBehind.2.2.2 ∈ lw_gd ∧ Cond.initialized mX5_readNumberBehind.1.cls ∈ lw_gd ∧ (mX5_readNumberBehind.1.cls ≠ "java/lang/invoke/MethodHandle" ∧ mX5_readNumberBehind.1.cls ≠ "java/lang/invoke/VarHandle" ∧ (parseMethodDescriptor mX5_readNumberBehind.1.desc).map (fun d => d.parameters.length) = some 3) ∧ mX5_readNumberBehind.2.2.1 ≤ 80 := ⟨(px_in3 119 rfl rfl), (px_in1 4 rfl rfl), by decide +kernel, by decide⟩
set_option maxRecDepth 100000 in
theorem kd_X5_readKeyword : Cond.code mX5_readKeyword.1 mX5_readKeyword.2.1 mX5_readKeyword.2.2.1 mX5_readKeyword.2.2.2 ∈ lw_gd ∧ Cond.initialized mX5_readKeyword.1.cls ∈ lw_gd ∧ (mX5_readKeyword.1.cls ≠ "java/lang/invoke/MethodHandle" ∧ mX5_readKeyword.1.cls ≠ "java/lang/invoke/VarHandle" ∧ (parseMethodDescriptor mX5_readKeyword.1.desc).map (fun d => d.parameters.length) = some 1) ∧ mX5_readKeyword.2.2.1 ≤ 80 := ⟨(px_in3 123 rfl rfl), (px_in1 4 rfl rfl), by decide +kernel, by decide⟩
set_option maxRecDepth 100000 in
theorem kd_X5_readLineEnd : Cond.code mX5_readLineEnd.1 mX5_readLineEnd.2.1 mX5_readLineEnd.2.2.1 mX5_readLineEnd.2.2.2 ∈ lw_gd ∧ Cond.initialized mX5_readLineEnd.1.cls ∈ lw_gd ∧ (mX5_readLineEnd.1.cls ≠ "java/lang/invoke/MethodHandle" ∧ mX5_readLineEnd.1.cls ≠ "java/lang/invoke/VarHandle" ∧ (parseMethodDescriptor mX5_readLineEnd.1.desc).map (fun d => d.parameters.length) = some 0) ∧ mX5_readLineEnd.2.2.1 ≤ 80 := ⟨(px_in3 131 rfl rfl), (px_in1 4 rfl rfl), by decide +kernel, by decide⟩
set_option maxRecDepth 100000 in
theorem kd_X5_refuse : Cond.code mX5_refuse.1 mX5_refuse.2.1 mX5_refuse.2.2.1 mX5_refuse.2.2.2 ∈ lw_gd ∧ Cond.initialized mX5_refuse.1.cls ∈ lw_gd ∧ (mX5_refuse.1.cls ≠ "java/lang/invoke/MethodHandle" ∧ mX5_refuse.1.cls ≠ "java/lang/invoke/VarHandle" ∧ (parseMethodDescriptor mX5_refuse.1.desc).map (fun d => d.parameters.length) = some 0) ∧ mX5_refuse.2.2.1 ≤ 80 := ⟨(px_in3 98 rfl rfl), (px_in1 4 rfl rfl), by decide +kernel, by decide⟩
set_option maxRecDepth 100000 in
theorem kd_X5_setFault : Cond.code mX5_setFault.1 mX5_setFault.2.1 mX5_setFault.2.2.1 mX5_setFault.2.2.2 ∈ lw_gd ∧ Cond.initialized mX5_setFault.1.cls ∈ lw_gd ∧ (mX5_setFault.1.cls ≠ "java/lang/invoke/MethodHandle" ∧ mX5_setFault.1.cls ≠ "java/lang/invoke/VarHandle" ∧ (parseMethodDescriptor mX5_setFault.1.desc).map (fun d => d.parameters.length) = some 1) ∧ mX5_setFault.2.2.1 ≤ 80 := ⟨(px_in3 102 rfl rfl), (px_in1 4 rfl rfl), by decide +kernel, by decide⟩
set_option maxRecDepth 100000 in
theorem kd_X6_init : Cond.code mX6_init.1 mX6_init.2.1 mX6_init.2.2.1 mX6_init.2.2.2 ∈ lw_gd ∧ Cond.initialized mX6_init.1.cls ∈ lw_gd ∧ (mX6_init.1.cls ≠ "java/lang/invoke/MethodHandle" ∧ mX6_init.1.cls ≠ "java/lang/invoke/VarHandle" ∧ (parseMethodDescriptor mX6_init.1.desc).map (fun d => d.parameters.length) = some 0) ∧ mX6_init.2.2.1 ≤ 80 := ⟨(px_in1 178 rfl rfl), (px_in1 5 rfl rfl), by decide +kernel, by decide⟩
set_option maxRecDepth 100000 in
theorem kd_X6_begin : Cond.code mX6_begin.1 mX6_begin.2.1 mX6_begin.2.2.1 mX6_begin.2.2.2 ∈ lw_gd ∧ Cond.initialized mX6_begin.1.cls ∈ lw_gd ∧ (mX6_begin.1.cls ≠ "java/lang/invoke/MethodHandle" ∧ mX6_begin.1.cls ≠ "java/lang/invoke/VarHandle" ∧ (parseMethodDescriptor mX6_begin.1.desc).map (fun d => d.parameters.length) = some 2) ∧ mX6_begin.2.2.1 ≤ 80 := ⟨(px_in3 13 rfl rfl), (px_in1 5 rfl rfl), by decide +kernel, by decide⟩
set_option maxRecDepth 100000 in
theorem kd_X6_advance : Cond.code mX6_advance.1 mX6_advance.2.1 mX6_advance.2.2.1 mX6_advance.2.2.2 ∈ lw_gd ∧ Cond.initialized mX6_advance.1.cls ∈ lw_gd ∧ (mX6_advance.1.cls ≠ "java/lang/invoke/MethodHandle" ∧ mX6_advance.1.cls ≠ "java/lang/invoke/VarHandle" ∧ (parseMethodDescriptor mX6_advance.1.desc).map (fun d => d.parameters.length) = some 0) ∧ mX6_advance.2.2.1 ≤ 80 := ⟨(px_in3 20 rfl rfl), (px_in1 5 rfl rfl), by decide +kernel, by decide⟩
set_option maxRecDepth 100000 in
theorem kd_X6_isKeyword : Cond.code mX6_isKeyword.1 mX6_isKeyword.2.1 mX6_isKeyword.2.2.1 mX6_isKeyword.2.2.2 ∈ lw_gd ∧ Cond.initialized mX6_isKeyword.1.cls ∈ lw_gd ∧ (mX6_isKeyword.1.cls ≠ "java/lang/invoke/MethodHandle" ∧ mX6_isKeyword.1.cls ≠ "java/lang/invoke/VarHandle" ∧ (parseMethodDescriptor mX6_isKeyword.1.desc).map (fun d => d.parameters.length) = some 1) ∧ mX6_isKeyword.2.2.1 ≤ 80 := ⟨(px_in3 127 rfl rfl), (px_in1 5 rfl rfl), by decide +kernel, by decide⟩
set_option maxRecDepth 100000 in
theorem kd_X6_isSign : Cond.code mX6_isSign.1 mX6_isSign.2.1 mX6_isSign.2.2.1 mX6_isSign.2.2.2 ∈ lw_gd ∧ Cond.initialized mX6_isSign.1.cls ∈ lw_gd ∧ (mX6_isSign.1.cls ≠ "java/lang/invoke/MethodHandle" ∧ mX6_isSign.1.cls ≠ "java/lang/invoke/VarHandle" ∧ (parseMethodDescriptor mX6_isSign.1.desc).map (fun d => d.parameters.length) = some 1) ∧ mX6_isSign.2.2.1 ≤ 80 := ⟨(px_in3 135 rfl rfl), (px_in1 5 rfl rfl), by decide +kernel, by decide⟩
set_option maxRecDepth 100000 in
theorem kd_X6_takeWord : Cond.code mX6_takeWord.1 mX6_takeWord.2.1 mX6_takeWord.2.2.1 mX6_takeWord.2.2.2 ∈ lw_gd ∧ Cond.initialized mX6_takeWord.1.cls ∈ lw_gd ∧ (mX6_takeWord.1.cls ≠ "java/lang/invoke/MethodHandle" ∧ mX6_takeWord.1.cls ≠ "java/lang/invoke/VarHandle" ∧ (parseMethodDescriptor mX6_takeWord.1.desc).map (fun d => d.parameters.length) = some 0) ∧ mX6_takeWord.2.2.1 ≤ 80 := ⟨(px_in3 24 rfl rfl), (px_in1 5 rfl rfl), by decide +kernel, by decide⟩
set_option maxRecDepth 100000 in
theorem kd_X6_takeNumber : Cond.code mX6_takeNumber.1 mX6_takeNumber.2.1 mX6_takeNumber.2.2.1 mX6_takeNumber.2.2.2 ∈ lw_gd ∧ Cond.initialized mX6_takeNumber.1.cls ∈ lw_gd ∧ (mX6_takeNumber.1.cls ≠ "java/lang/invoke/MethodHandle" ∧ mX6_takeNumber.1.cls ≠ "java/lang/invoke/VarHandle" ∧ (parseMethodDescriptor mX6_takeNumber.1.desc).map (fun d => d.parameters.length) = some 0) ∧ mX6_takeNumber.2.2.1 ≤ 80 := ⟨(px_in3 28 rfl rfl), (px_in1 5 rfl rfl), by decide +kernel, by decide⟩
set_option maxRecDepth 100000 in
theorem kd_X6_takeSignOrEnd : Cond.code mX6_takeSignOrEnd.1 mX6_takeSignOrEnd.2.1 mX6_takeSignOrEnd.2.2.1 mX6_takeSignOrEnd.2.2.2 ∈ lw_gd ∧ Cond.initialized mX6_takeSignOrEnd.1.cls ∈ lw_gd ∧ (mX6_takeSignOrEnd.1.cls ≠ "java/lang/invoke/MethodHandle" ∧ mX6_takeSignOrEnd.1.cls ≠ "java/lang/invoke/VarHandle" ∧ (parseMethodDescriptor mX6_takeSignOrEnd.1.desc).map (fun d => d.parameters.length) = some 0) ∧ mX6_takeSignOrEnd.2.2.1 ≤ 80 := ⟨(px_in3 32 rfl rfl), (px_in1 5 rfl rfl), by decide +kernel, by decide⟩
set_option maxRecDepth 100000 in
theorem kd_X6_spelledOn : Cond.code mX6_spelledOn.1 mX6_spelledOn.2.1 mX6_spelledOn.2.2.1 mX6_spelledOn.2.2.2 ∈ lw_gd ∧ Cond.initialized mX6_spelledOn.1.cls ∈ lw_gd ∧ (mX6_spelledOn.1.cls ≠ "java/lang/invoke/MethodHandle" ∧ mX6_spelledOn.1.cls ≠ "java/lang/invoke/VarHandle" ∧ (parseMethodDescriptor mX6_spelledOn.1.desc).map (fun d => d.parameters.length) = some 2) ∧ mX6_spelledOn.2.2.1 ≤ 80 := ⟨(px_in1 231 rfl rfl), (px_in1 5 rfl rfl), by decide +kernel, by decide⟩
set_option maxRecDepth 100000 in
theorem kd_X7_init : Cond.code mX7_init.1 mX7_init.2.1 mX7_init.2.2.1 mX7_init.2.2.2 ∈ lw_gd ∧ Cond.initialized mX7_init.1.cls ∈ lw_gd ∧ (mX7_init.1.cls ≠ "java/lang/invoke/MethodHandle" ∧ mX7_init.1.cls ≠ "java/lang/invoke/VarHandle" ∧ (parseMethodDescriptor mX7_init.1.desc).map (fun d => d.parameters.length) = some 0) ∧ mX7_init.2.2.1 ≤ 80 := ⟨(px_in2 139 rfl rfl), (px_in1 14 rfl rfl), by decide +kernel, by decide⟩
set_option maxRecDepth 100000 in
theorem kd_X7_forget : Cond.code mX7_forget.1 mX7_forget.2.1 mX7_forget.2.2.1 mX7_forget.2.2.2 ∈ lw_gd ∧ Cond.initialized mX7_forget.1.cls ∈ lw_gd ∧ (mX7_forget.1.cls ≠ "java/lang/invoke/MethodHandle" ∧ mX7_forget.1.cls ≠ "java/lang/invoke/VarHandle" ∧ (parseMethodDescriptor mX7_forget.1.desc).map (fun d => d.parameters.length) = some 0) ∧ mX7_forget.2.2.1 ≤ 80 := ⟨(px_in3 208 rfl rfl), (px_in1 14 rfl rfl), by decide +kernel, by decide⟩
set_option maxRecDepth 100000 in
theorem kd_X7_add : Cond.code mX7_add.1 mX7_add.2.1 mX7_add.2.2.1 mX7_add.2.2.2 ∈ lw_gd ∧ Cond.initialized mX7_add.1.cls ∈ lw_gd ∧ (mX7_add.1.cls ≠ "java/lang/invoke/MethodHandle" ∧ mX7_add.1.cls ≠ "java/lang/invoke/VarHandle" ∧ (parseMethodDescriptor mX7_add.1.desc).map (fun d => d.parameters.length) = some 4) ∧ mX7_add.2.2.1 ≤ 80 := ⟨(px_in5 124 rfl rfl), (px_in1 14 rfl rfl), by decide +kernel, by decide⟩
set_option maxRecDepth 100000 in
theorem kd_X7_withdraw : Cond.code mX7_withdraw.1 mX7_withdraw.2.1 mX7_withdraw.2.2.1 mX7_withdraw.2.2.2 ∈ lw_gd ∧ Cond.initialized mX7_withdraw.1.cls ∈ lw_gd ∧ (mX7_withdraw.1.cls ≠ "java/lang/invoke/MethodHandle" ∧ mX7_withdraw.1.cls ≠ "java/lang/invoke/VarHandle" ∧ (parseMethodDescriptor mX7_withdraw.1.desc).map (fun d => d.parameters.length) = some 1) ∧ mX7_withdraw.2.2.1 ≤ 80 := ⟨(px_in5 132 rfl rfl), (px_in1 14 rfl rfl), by decide +kernel, by decide⟩
set_option maxRecDepth 100000 in
theorem kd_X7_passTime : Cond.code mX7_passTime.1 mX7_passTime.2.1 mX7_passTime.2.2.1 mX7_passTime.2.2.2 ∈ lw_gd ∧ Cond.initialized mX7_passTime.1.cls ∈ lw_gd ∧ (mX7_passTime.1.cls ≠ "java/lang/invoke/MethodHandle" ∧ mX7_passTime.1.cls ≠ "java/lang/invoke/VarHandle" ∧ (parseMethodDescriptor mX7_passTime.1.desc).map (fun d => d.parameters.length) = some 1) ∧ mX7_passTime.2.2.1 ≤ 80 := ⟨(px_in5 140 rfl rfl), (px_in1 14 rfl rfl), by decide +kernel, by decide⟩
set_option maxRecDepth 100000 in
theorem kd_X7_fitting : Cond.code mX7_fitting.1 mX7_fitting.2.1 mX7_fitting.2.2.1 mX7_fitting.2.2.2 ∈ lw_gd ∧ Cond.initialized mX7_fitting.1.cls ∈ lw_gd ∧ (mX7_fitting.1.cls ≠ "java/lang/invoke/MethodHandle" ∧ mX7_fitting.1.cls ≠ "java/lang/invoke/VarHandle" ∧ (parseMethodDescriptor mX7_fitting.1.desc).map (fun d => d.parameters.length) = some 2) ∧ mX7_fitting.2.2.1 ≤ 80 := ⟨(px_in5 149 rfl rfl), (px_in1 14 rfl rfl), by decide +kernel, by decide⟩
set_option maxRecDepth 100000 in
theorem kd_X7_mostLeft : Cond.code mX7_mostLeft.1 mX7_mostLeft.2.1 mX7_mostLeft.2.2.1 mX7_mostLeft.2.2.2 ∈ lw_gd ∧ Cond.initialized mX7_mostLeft.1.cls ∈ lw_gd ∧ (mX7_mostLeft.1.cls ≠ "java/lang/invoke/MethodHandle" ∧ mX7_mostLeft.1.cls ≠ "java/lang/invoke/VarHandle" ∧ (parseMethodDescriptor mX7_mostLeft.1.desc).map (fun d => d.parameters.length) = some 3) ∧ mX7_mostLeft.2.2.1 ≤ 80 := ⟨(px_in5 178 rfl rfl), (px_in1 14 rfl rfl), by decide +kernel, by decide⟩
set_option maxRecDepth 100000 in
theorem kd_X7_agrees : Cond.code mX7_agrees.1 mX7_agrees.2.1 mX7_agrees.2.2.1 mX7_agrees.2.2.2 ∈ lw_gd ∧ Cond.initialized mX7_agrees.1.cls ∈ lw_gd ∧ (mX7_agrees.1.cls ≠ "java/lang/invoke/MethodHandle" ∧ mX7_agrees.1.cls ≠ "java/lang/invoke/VarHandle" ∧ (parseMethodDescriptor mX7_agrees.1.desc).map (fun d => d.parameters.length) = some 2) ∧ mX7_agrees.2.2.1 ≤ 80 := ⟨(px_in5 162 rfl rfl), (px_in1 14 rfl rfl), by decide +kernel, by decide⟩
set_option maxRecDepth 100000 in
theorem kd_X7_countsAt : Cond.code mX7_countsAt.1 mX7_countsAt.2.1 mX7_countsAt.2.2.1 mX7_countsAt.2.2.2 ∈ lw_gd ∧ Cond.initialized mX7_countsAt.1.cls ∈ lw_gd ∧ (mX7_countsAt.1.cls ≠ "java/lang/invoke/MethodHandle" ∧ mX7_countsAt.1.cls ≠ "java/lang/invoke/VarHandle" ∧ (parseMethodDescriptor mX7_countsAt.1.desc).map (fun d => d.parameters.length) = some 2) ∧ mX7_countsAt.2.2.1 ≤ 80 := ⟨(px_in5 166 rfl rfl), (px_in1 14 rfl rfl), by decide +kernel, by decide⟩
set_option maxRecDepth 100000 in
theorem kd_X7_fillChart : Cond.code mX7_fillChart.1 mX7_fillChart.2.1 mX7_fillChart.2.2.1 mX7_fillChart.2.2.2 ∈ lw_gd ∧ Cond.initialized mX7_fillChart.1.cls ∈ lw_gd ∧ (mX7_fillChart.1.cls ≠ "java/lang/invoke/MethodHandle" ∧ mX7_fillChart.1.cls ≠ "java/lang/invoke/VarHandle" ∧ (parseMethodDescriptor mX7_fillChart.1.desc).map (fun d => d.parameters.length) = some 1) ∧ mX7_fillChart.2.2.1 ≤ 80 := ⟨(px_in5 153 rfl rfl), (px_in1 14 rfl rfl), by decide +kernel, by decide⟩
set_option maxRecDepth 100000 in
theorem kd_X7_cell : Cond.code mX7_cell.1 mX7_cell.2.1 mX7_cell.2.2.1 mX7_cell.2.2.2 ∈ lw_gd ∧ Cond.initialized mX7_cell.1.cls ∈ lw_gd ∧ (mX7_cell.1.cls ≠ "java/lang/invoke/MethodHandle" ∧ mX7_cell.1.cls ≠ "java/lang/invoke/VarHandle" ∧ (parseMethodDescriptor mX7_cell.1.desc).map (fun d => d.parameters.length) = some 3) ∧ mX7_cell.2.2.1 ≤ 80 := ⟨(px_in5 157 rfl rfl), (px_in1 14 rfl rfl), by decide +kernel, by decide⟩
set_option maxRecDepth 100000 in
theorem kd_X8_init : Cond.code mX8_init.1 mX8_init.2.1 mX8_init.2.2.1 mX8_init.2.2.2 ∈ lw_gd ∧ Cond.initialized mX8_init.1.cls ∈ lw_gd ∧ (mX8_init.1.cls ≠ "java/lang/invoke/MethodHandle" ∧ mX8_init.1.cls ≠ "java/lang/invoke/VarHandle" ∧ (parseMethodDescriptor mX8_init.1.desc).map (fun d => d.parameters.length) = some 0) ∧ mX8_init.2.2.1 ≤ 80 := ⟨(px_in2 53 rfl rfl), (px_in1 10 rfl rfl), by decide +kernel, by decide⟩
set_option maxRecDepth 100000 in
theorem kd_X8_setAsTold : Cond.code mX8_setAsTold.1 mX8_setAsTold.2.1 mX8_setAsTold.2.2.1 mX8_setAsTold.2.2.2 ∈ lw_gd ∧ Cond.initialized mX8_setAsTold.1.cls ∈ lw_gd ∧ (mX8_setAsTold.1.cls ≠ "java/lang/invoke/MethodHandle" ∧ mX8_setAsTold.1.cls ≠ "java/lang/invoke/VarHandle" ∧ (parseMethodDescriptor mX8_setAsTold.1.desc).map (fun d => d.parameters.length) = some 1) ∧ mX8_setAsTold.2.2.1 ≤ 80 := ⟨(px_in3 193 rfl rfl), (px_in1 10 rfl rfl), by decide +kernel, by decide⟩
set_option maxRecDepth 100000 in
theorem kd_X8_copyFrom : Cond.code mX8_copyFrom.1 mX8_copyFrom.2.1 mX8_copyFrom.2.2.1 mX8_copyFrom.2.2.2 ∈ lw_gd ∧ Cond.initialized mX8_copyFrom.1.cls ∈ lw_gd ∧ (mX8_copyFrom.1.cls ≠ "java/lang/invoke/MethodHandle" ∧ mX8_copyFrom.1.cls ≠ "java/lang/invoke/VarHandle" ∧ (parseMethodDescriptor mX8_copyFrom.1.desc).map (fun d => d.parameters.length) = some 1) ∧ mX8_copyFrom.2.2.1 ≤ 80 := ⟨(px_in4 125 rfl rfl), (px_in1 10 rfl rfl), by decide +kernel, by decide⟩
set_option maxRecDepth 100000 in
theorem kd_X8_writeTo : Cond.code mX8_writeTo.1 mX8_writeTo.2.1 mX8_writeTo.2.2.1 mX8_writeTo.2.2.2 ∈ lw_gd ∧ Cond.initialized mX8_writeTo.1.cls ∈ lw_gd ∧ (mX8_writeTo.1.cls ≠ "java/lang/invoke/MethodHandle" ∧ mX8_writeTo.1.cls ≠ "java/lang/invoke/VarHandle" ∧ (parseMethodDescriptor mX8_writeTo.1.desc).map (fun d => d.parameters.length) = some 2) ∧ mX8_writeTo.2.2.1 ≤ 80 := ⟨(px_in3 204 rfl rfl), (px_in1 10 rfl rfl), by decide +kernel, by decide⟩
set_option maxRecDepth 100000 in
theorem kd_X8_readFrom : Cond.code mX8_readFrom.1 mX8_readFrom.2.1 mX8_readFrom.2.2.1 mX8_readFrom.2.2.2 ∈ lw_gd ∧ Cond.initialized mX8_readFrom.1.cls ∈ lw_gd ∧ (mX8_readFrom.1.cls ≠ "java/lang/invoke/MethodHandle" ∧ mX8_readFrom.1.cls ≠ "java/lang/invoke/VarHandle" ∧ (parseMethodDescriptor mX8_readFrom.1.desc).map (fun d => d.parameters.length) = some 2) ∧ mX8_readFrom.2.2.1 ≤ 80 := ⟨(px_in4 102 rfl rfl), (px_in1 10 rfl rfl), by decide +kernel, by decide⟩
set_option maxRecDepth 100000 in
theorem kd_X8_isForbidden : Cond.code mX8_isForbidden.1 mX8_isForbidden.2.1 mX8_isForbidden.2.2.1 mX8_isForbidden.2.2.2 ∈ lw_gd ∧ Cond.initialized mX8_isForbidden.1.cls ∈ lw_gd ∧ (mX8_isForbidden.1.cls ≠ "java/lang/invoke/MethodHandle" ∧ mX8_isForbidden.1.cls ≠ "java/lang/invoke/VarHandle" ∧ (parseMethodDescriptor mX8_isForbidden.1.desc).map (fun d => d.parameters.length) = some 1) ∧ mX8_isForbidden.2.2.1 ≤ 80 := ⟨(px_in3 236 rfl rfl), (px_in1 10 rfl rfl), by decide +kernel, by decide⟩
set_option maxRecDepth 100000 in
theorem kd_X9_init : Cond.code mX9_init.1 mX9_init.2.1 mX9_init.2.2.1 mX9_init.2.2.2 ∈ lw_gd ∧ Cond.initialized mX9_init.1.cls ∈ lw_gd ∧ (mX9_init.1.cls ≠ "java/lang/invoke/MethodHandle" ∧ mX9_init.1.cls ≠ "java/lang/invoke/VarHandle" ∧ (parseMethodDescriptor mX9_init.1.desc).map (fun d => d.parameters.length) = some 0) ∧ mX9_init.2.2.1 ≤ 80 := ⟨(px_in1 25 rfl rfl), (px_in1 1 rfl rfl), by decide +kernel, by decide⟩
set_option maxRecDepth 100000 in
theorem kd_X9_feed : Cond.code mX9_feed.1 mX9_feed.2.1 mX9_feed.2.2.1 mX9_feed.2.2.2 ∈ lw_gd ∧ Cond.initialized mX9_feed.1.cls ∈ lw_gd ∧ (mX9_feed.1.cls ≠ "java/lang/invoke/MethodHandle" ∧ mX9_feed.1.cls ≠ "java/lang/invoke/VarHandle" ∧ (parseMethodDescriptor mX9_feed.1.desc).map (fun d => d.parameters.length) = some 5) ∧ mX9_feed.2.2.1 ≤ 80 := ⟨(px_in2 232 rfl rfl), (px_in1 1 rfl rfl), by decide +kernel, by decide⟩
set_option maxRecDepth 100000 in
theorem kd_X9_end : Cond.code mX9_end.1 mX9_end.2.1 mX9_end.2.2.1 mX9_end.2.2.2 ∈ lw_gd ∧ Cond.initialized mX9_end.1.cls ∈ lw_gd ∧ (mX9_end.1.cls ≠ "java/lang/invoke/MethodHandle" ∧ mX9_end.1.cls ≠ "java/lang/invoke/VarHandle" ∧ (parseMethodDescriptor mX9_end.1.desc).map (fun d => d.parameters.length) = some 1) ∧ mX9_end.2.2.1 ≤ 80 := ⟨(px_in3 0 rfl rfl), (px_in1 1 rfl rfl), by decide +kernel, by decide⟩
set_option maxRecDepth 100000 in
theorem kd_X9_hamlet : Cond.code mX9_hamlet.1 mX9_hamlet.2.1 mX9_hamlet.2.2.1 mX9_hamlet.2.2.2 ∈ lw_gd ∧ Cond.initialized mX9_hamlet.1.cls ∈ lw_gd ∧ (mX9_hamlet.1.cls ≠ "java/lang/invoke/MethodHandle" ∧ mX9_hamlet.1.cls ≠ "java/lang/invoke/VarHandle" ∧ (parseMethodDescriptor mX9_hamlet.1.desc).map (fun d => d.parameters.length) = some 0) ∧ mX9_hamlet.2.2.1 ≤ 80 := ⟨(px_in3 4 rfl rfl), (px_in1 1 rfl rfl), by decide +kernel, by decide⟩
set_option maxRecDepth 100000 in
theorem kd_X9_fault : Cond.code mX9_fault.1 mX9_fault.2.1 mX9_fault.2.2.1 mX9_fault.2.2.2 ∈ lw_gd ∧ Cond.initialized mX9_fault.1.cls ∈ lw_gd ∧ (mX9_fault.1.cls ≠ "java/lang/invoke/MethodHandle" ∧ mX9_fault.1.cls ≠ "java/lang/invoke/VarHandle" ∧ (parseMethodDescriptor mX9_fault.1.desc).map (fun d => d.parameters.length) = some 1) ∧ mX9_fault.2.2.1 ≤ 80 := ⟨(px_in3 212 rfl rfl), (px_in1 1 rfl rfl), by decide +kernel, by decide⟩
set_option maxRecDepth 100000 in
theorem kd_X9_person : Cond.code mX9_person.1 mX9_person.2.1 mX9_person.2.2.1 mX9_person.2.2.2 ∈ lw_gd ∧ Cond.initialized mX9_person.1.cls ∈ lw_gd ∧ (mX9_person.1.cls ≠ "java/lang/invoke/MethodHandle" ∧ mX9_person.1.cls ≠ "java/lang/invoke/VarHandle" ∧ (parseMethodDescriptor mX9_person.1.desc).map (fun d => d.parameters.length) = some 2) ∧ mX9_person.2.2.1 ≤ 80 := ⟨(px_in3 216 rfl rfl), (px_in1 1 rfl rfl), by decide +kernel, by decide⟩
set_option maxRecDepth 100000 in
theorem kd_X9_meeting : Cond.code mX9_meeting.1 mX9_meeting.2.1 mX9_meeting.2.2.1 mX9_meeting.2.2.2 ∈ lw_gd ∧ Cond.initialized mX9_meeting.1.cls ∈ lw_gd ∧ (mX9_meeting.1.cls ≠ "java/lang/invoke/MethodHandle" ∧ mX9_meeting.1.cls ≠ "java/lang/invoke/VarHandle" ∧ (parseMethodDescriptor mX9_meeting.1.desc).map (fun d => d.parameters.length) = some 2) ∧ mX9_meeting.2.2.1 ≤ 80 := ⟨(px_in3 228 rfl rfl), (px_in1 1 rfl rfl), by decide +kernel, by decide⟩
set_option maxRecDepth 100000 in
theorem kd_X9_brother : Cond.code mX9_brother.1 mX9_brother.2.1 mX9_brother.2.2.1 mX9_brother.2.2.2 ∈ lw_gd ∧ Cond.initialized mX9_brother.1.cls ∈ lw_gd ∧ (mX9_brother.1.cls ≠ "java/lang/invoke/MethodHandle" ∧ mX9_brother.1.cls ≠ "java/lang/invoke/VarHandle" ∧ (parseMethodDescriptor mX9_brother.1.desc).map (fun d => d.parameters.length) = some 2) ∧ mX9_brother.2.2.1 ≤ 80 := ⟨(px_in4 0 rfl rfl), (px_in1 1 rfl rfl), by decide +kernel, by decide⟩
set_option maxRecDepth 100000 in
theorem kd_X9_round : Cond.code mX9_round.1 mX9_round.2.1 mX9_round.2.2.1 mX9_round.2.2.2 ∈ lw_gd ∧ Cond.initialized mX9_round.1.cls ∈ lw_gd ∧ (mX9_round.1.cls ≠ "java/lang/invoke/MethodHandle" ∧ mX9_round.1.cls ≠ "java/lang/invoke/VarHandle" ∧ (parseMethodDescriptor mX9_round.1.desc).map (fun d => d.parameters.length) = some 2) ∧ mX9_round.2.2.1 ≤ 80 := ⟨(px_in4 8 rfl rfl), (px_in1 1 rfl rfl), by decide +kernel, by decide⟩
set_option maxRecDepth 100000 in
theorem kd_X9_touch : Cond.code mX9_touch.1 mX9_touch.2.1 mX9_touch.2.2.1 mX9_touch.2.2.2 ∈ lw_gd ∧ Cond.initialized mX9_touch.1.cls ∈ lw_gd ∧ (mX9_touch.1.cls ≠ "java/lang/invoke/MethodHandle" ∧ mX9_touch.1.cls ≠ "java/lang/invoke/VarHandle" ∧ (parseMethodDescriptor mX9_touch.1.desc).map (fun d => d.parameters.length) = some 2) ∧ mX9_touch.2.2.1 ≤ 80 := ⟨(px_in4 12 rfl rfl), (px_in1 1 rfl rfl), by decide +kernel, by decide⟩
set_option maxRecDepth 100000 in
theorem kd_X9_abed : Cond.code mX9_abed.1 mX9_abed.2.1 mX9_abed.2.2.1 mX9_abed.2.2.2 ∈ lw_gd ∧ Cond.initialized mX9_abed.1.cls ∈ lw_gd ∧ (mX9_abed.1.cls ≠ "java/lang/invoke/MethodHandle" ∧ mX9_abed.1.cls ≠ "java/lang/invoke/VarHandle" ∧ (parseMethodDescriptor mX9_abed.1.desc).map (fun d => d.parameters.length) = some 0) ∧ mX9_abed.2.2.1 ≤ 80 := ⟨(px_in4 31 rfl rfl), (px_in1 1 rfl rfl), by decide +kernel, by decide⟩
set_option maxRecDepth 100000 in
theorem kd_X9_day : Cond.code mX9_day.1 mX9_day.2.1 mX9_day.2.2.1 mX9_day.2.2.2 ∈ lw_gd ∧ Cond.initialized mX9_day.1.cls ∈ lw_gd ∧ (mX9_day.1.cls ≠ "java/lang/invoke/MethodHandle" ∧ mX9_day.1.cls ≠ "java/lang/invoke/VarHandle" ∧ (parseMethodDescriptor mX9_day.1.desc).map (fun d => d.parameters.length) = some 0) ∧ mX9_day.2.2.1 ≤ 80 := ⟨(px_in4 40 rfl rfl), (px_in1 1 rfl rfl), by decide +kernel, by decide⟩
set_option maxRecDepth 100000 in
theorem kd_X9_lesson : Cond.code mX9_lesson.1 mX9_lesson.2.1 mX9_lesson.2.2.1 mX9_lesson.2.2.2 ∈ lw_gd ∧ Cond.initialized mX9_lesson.1.cls ∈ lw_gd ∧ (mX9_lesson.1.cls ≠ "java/lang/invoke/MethodHandle" ∧ mX9_lesson.1.cls ≠ "java/lang/invoke/VarHandle" ∧ (parseMethodDescriptor mX9_lesson.1.desc).map (fun d => d.parameters.length) = some 1) ∧ mX9_lesson.2.2.1 ≤ 80 := ⟨(px_in4 73 rfl rfl), (px_in1 1 rfl rfl), by decide +kernel, by decide⟩
set_option maxRecDepth 100000 in
theorem kd_X9_forbid : Cond.code mX9_forbid.1 mX9_forbid.2.1 mX9_forbid.2.2.1 mX9_forbid.2.2.2 ∈ lw_gd ∧ Cond.initialized mX9_forbid.1.cls ∈ lw_gd ∧ (mX9_forbid.1.cls ≠ "java/lang/invoke/MethodHandle" ∧ mX9_forbid.1.cls ≠ "java/lang/invoke/VarHandle" ∧ (parseMethodDescriptor mX9_forbid.1.desc).map (fun d => d.parameters.length) = some 1) ∧ mX9_forbid.2.2.1 ≤ 80 := ⟨(px_in4 77 rfl rfl), (px_in1 1 rfl rfl), by decide +kernel, by decide⟩
set_option maxRecDepth 100000 in
theorem kd_X9_allow : Cond.code mX9_allow.1 mX9_allow.2.1 mX9_allow.2.2.1 mX9_allow.2.2.2 ∈ lw_gd ∧ Cond.initialized mX9_allow.1.cls ∈ lw_gd ∧ (mX9_allow.1.cls ≠ "java/lang/invoke/MethodHandle" ∧ mX9_allow.1.cls ≠ "java/lang/invoke/VarHandle" ∧ (parseMethodDescriptor mX9_allow.1.desc).map (fun d => d.parameters.length) = some 1) ∧ mX9_allow.2.2.1 ≤ 80 := ⟨(px_in4 85 rfl rfl), (px_in1 1 rfl rfl), by decide +kernel, by decide⟩
set_option maxRecDepth 100000 in
theorem kd_X9_call : Cond.code mX9_call.1 mX9_call.2.1 mX9_call.2.2.1 mX9_call.2.2.2 ∈ lw_gd ∧ Cond.initialized mX9_call.1.cls ∈ lw_gd ∧ (mX9_call.1.cls ≠ "java/lang/invoke/MethodHandle" ∧ mX9_call.1.cls ≠ "java/lang/invoke/VarHandle" ∧ (parseMethodDescriptor mX9_call.1.desc).map (fun d => d.parameters.length) = some 2) ∧ mX9_call.2.2.1 ≤ 80 := ⟨(px_in4 89 rfl rfl), (px_in1 1 rfl rfl), by decide +kernel, by decide⟩
set_option maxRecDepth 100000 in
theorem kd_X9_undo : Cond.code mX9_undo.1 mX9_undo.2.1 mX9_undo.2.2.1 mX9_undo.2.2.2 ∈ lw_gd ∧ Cond.initialized mX9_undo.1.cls ∈ lw_gd ∧ (mX9_undo.1.cls ≠ "java/lang/invoke/MethodHandle" ∧ mX9_undo.1.cls ≠ "java/lang/invoke/VarHandle" ∧ (parseMethodDescriptor mX9_undo.1.desc).map (fun d => d.parameters.length) = some 0) ∧ mX9_undo.2.2.1 ≤ 80 := ⟨(px_in4 94 rfl rfl), (px_in1 1 rfl rfl), by decide +kernel, by decide⟩
set_option maxRecDepth 100000 in
theorem kd_X9_redo : Cond.code mX9_redo.1 mX9_redo.2.1 mX9_redo.2.2.1 mX9_redo.2.2.2 ∈ lw_gd ∧ Cond.initialized mX9_redo.1.cls ∈ lw_gd ∧ (mX9_redo.1.cls ≠ "java/lang/invoke/MethodHandle" ∧ mX9_redo.1.cls ≠ "java/lang/invoke/VarHandle" ∧ (parseMethodDescriptor mX9_redo.1.desc).map (fun d => d.parameters.length) = some 0) ∧ mX9_redo.2.2.1 ≤ 80 := ⟨(px_in4 106 rfl rfl), (px_in1 1 rfl rfl), by decide +kernel, by decide⟩
set_option maxRecDepth 100000 in
theorem kd_X9_will : Cond.code mX9_will.1 mX9_will.2.1 mX9_will.2.2.1 mX9_will.2.2.2 ∈ lw_gd ∧ Cond.initialized mX9_will.1.cls ∈ lw_gd ∧ (mX9_will.1.cls ≠ "java/lang/invoke/MethodHandle" ∧ mX9_will.1.cls ≠ "java/lang/invoke/VarHandle" ∧ (parseMethodDescriptor mX9_will.1.desc).map (fun d => d.parameters.length) = some 3) ∧ mX9_will.2.2.1 ≤ 80 := ⟨(px_in4 114 rfl rfl), (px_in1 1 rfl rfl), by decide +kernel, by decide⟩
set_option maxRecDepth 100000 in
theorem kd_X9_firm : Cond.code mX9_firm.1 mX9_firm.2.1 mX9_firm.2.2.1 mX9_firm.2.2.2 ∈ lw_gd ∧ Cond.initialized mX9_firm.1.cls ∈ lw_gd ∧ (mX9_firm.1.cls ≠ "java/lang/invoke/MethodHandle" ∧ mX9_firm.1.cls ≠ "java/lang/invoke/VarHandle" ∧ (parseMethodDescriptor mX9_firm.1.desc).map (fun d => d.parameters.length) = some 2) ∧ mX9_firm.2.2.1 ≤ 80 := ⟨(px_in4 130 rfl rfl), (px_in1 1 rfl rfl), by decide +kernel, by decide⟩
set_option maxRecDepth 100000 in
theorem kd_X9_hurt : Cond.code mX9_hurt.1 mX9_hurt.2.1 mX9_hurt.2.2.1 mX9_hurt.2.2.2 ∈ lw_gd ∧ Cond.initialized mX9_hurt.1.cls ∈ lw_gd ∧ (mX9_hurt.1.cls ≠ "java/lang/invoke/MethodHandle" ∧ mX9_hurt.1.cls ≠ "java/lang/invoke/VarHandle" ∧ (parseMethodDescriptor mX9_hurt.1.desc).map (fun d => d.parameters.length) = some 1) ∧ mX9_hurt.2.2.1 ≤ 80 := ⟨(px_in4 146 rfl rfl), (px_in1 1 rfl rfl), by decide +kernel, by decide⟩
set_option maxRecDepth 100000 in
theorem kd_X9_felled : Cond.code mX9_felled.1 mX9_felled.2.1 mX9_felled.2.2.1 mX9_felled.2.2.2 ∈ lw_gd ∧ Cond.initialized mX9_felled.1.cls ∈ lw_gd ∧ (mX9_felled.1.cls ≠ "java/lang/invoke/MethodHandle" ∧ mX9_felled.1.cls ≠ "java/lang/invoke/VarHandle" ∧ (parseMethodDescriptor mX9_felled.1.desc).map (fun d => d.parameters.length) = some 1) ∧ mX9_felled.2.2.1 ≤ 80 := ⟨(px_in4 154 rfl rfl), (px_in1 1 rfl rfl), by decide +kernel, by decide⟩
set_option maxRecDepth 100000 in
theorem kd_X9_peace : Cond.code mX9_peace.1 mX9_peace.2.1 mX9_peace.2.2.1 mX9_peace.2.2.2 ∈ lw_gd ∧ Cond.initialized mX9_peace.1.cls ∈ lw_gd ∧ (mX9_peace.1.cls ≠ "java/lang/invoke/MethodHandle" ∧ mX9_peace.1.cls ≠ "java/lang/invoke/VarHandle" ∧ (parseMethodDescriptor mX9_peace.1.desc).map (fun d => d.parameters.length) = some 2) ∧ mX9_peace.2.2.1 ≤ 80 := ⟨(px_in4 167 rfl rfl), (px_in1 1 rfl rfl), by decide +kernel, by decide⟩
set_option maxRecDepth 100000 in
theorem kd_X9_rounds : Cond.code mX9_rounds.1 mX9_rounds.2.1 mX9_rounds.2.2.1 mX9_rounds.2.2.2 ∈ lw_gd ∧ Cond.initialized mX9_rounds.1.cls ∈ lw_gd ∧ (mX9_rounds.1.cls ≠ "java/lang/invoke/MethodHandle" ∧ mX9_rounds.1.cls ≠ "java/lang/invoke/VarHandle" ∧ (parseMethodDescriptor mX9_rounds.1.desc).map (fun d => d.parameters.length) = some 2) ∧ mX9_rounds.2.2.1 ≤ 80 := ⟨(px_in4 186 rfl rfl), (px_in1 1 rfl rfl), by decide +kernel, by decide⟩
set_option maxRecDepth 100000 in
theorem kd_X9_grip : Cond.code mX9_grip.1 mX9_grip.2.1 mX9_grip.2.2.1 mX9_grip.2.2.2 ∈ lw_gd ∧ Cond.initialized mX9_grip.1.cls ∈ lw_gd ∧ (mX9_grip.1.cls ≠ "java/lang/invoke/MethodHandle" ∧ mX9_grip.1.cls ≠ "java/lang/invoke/VarHandle" ∧ (parseMethodDescriptor mX9_grip.1.desc).map (fun d => d.parameters.length) = some 2) ∧ mX9_grip.2.2.1 ≤ 80 := ⟨(px_in4 209 rfl rfl), (px_in1 1 rfl rfl), by decide +kernel, by decide⟩
set_option maxRecDepth 100000 in
theorem kd_X9_pupil : Cond.code mX9_pupil.1 mX9_pupil.2.1 mX9_pupil.2.2.1 mX9_pupil.2.2.2 ∈ lw_gd ∧ Cond.initialized mX9_pupil.1.cls ∈ lw_gd ∧ (mX9_pupil.1.cls ≠ "java/lang/invoke/MethodHandle" ∧ mX9_pupil.1.cls ≠ "java/lang/invoke/VarHandle" ∧ (parseMethodDescriptor mX9_pupil.1.desc).map (fun d => d.parameters.length) = some 2) ∧ mX9_pupil.2.2.1 ≤ 80 := ⟨(px_in4 217 rfl rfl), (px_in1 1 rfl rfl), by decide +kernel, by decide⟩
set_option maxRecDepth 100000 in
theorem kd_X9_evenings : Cond.code mX9_evenings.1 mX9_evenings.2.1 mX9_evenings.2.2.1 mX9_evenings.2.2.2 ∈ lw_gd ∧ Cond.initialized mX9_evenings.1.cls ∈ lw_gd ∧ (mX9_evenings.1.cls ≠ "java/lang/invoke/MethodHandle" ∧ mX9_evenings.1.cls ≠ "java/lang/invoke/VarHandle" ∧ (parseMethodDescriptor mX9_evenings.1.desc).map (fun d => d.parameters.length) = some 0) ∧ mX9_evenings.2.2.1 ≤ 80 := ⟨(px_in4 233 rfl rfl), (px_in1 1 rfl rfl), by decide +kernel, by decide⟩
set_option maxRecDepth 100000 in
theorem kd_X9_rumour : Cond.code mX9_rumour.1 mX9_rumour.2.1 mX9_rumour.2.2.1 mX9_rumour.2.2.2 ∈ lw_gd ∧ Cond.initialized mX9_rumour.1.cls ∈ lw_gd ∧ (mX9_rumour.1.cls ≠ "java/lang/invoke/MethodHandle" ∧ mX9_rumour.1.cls ≠ "java/lang/invoke/VarHandle" ∧ (parseMethodDescriptor mX9_rumour.1.desc).map (fun d => d.parameters.length) = some 2) ∧ mX9_rumour.2.2.1 ≤ 80 := ⟨(px_in5 13 rfl rfl), (px_in1 1 rfl rfl), by decide +kernel, by decide⟩
set_option maxRecDepth 100000 in
theorem kd_X9_manners : Cond.code mX9_manners.1 mX9_manners.2.1 mX9_manners.2.2.1 mX9_manners.2.2.2 ∈ lw_gd ∧ Cond.initialized mX9_manners.1.cls ∈ lw_gd ∧ (mX9_manners.1.cls ≠ "java/lang/invoke/MethodHandle" ∧ mX9_manners.1.cls ≠ "java/lang/invoke/VarHandle" ∧ (parseMethodDescriptor mX9_manners.1.desc).map (fun d => d.parameters.length) = some 0) ∧ mX9_manners.2.2.1 ≤ 80 := ⟨(px_in5 21 rfl rfl), (px_in1 1 rfl rfl), by decide +kernel, by decide⟩
set_option maxRecDepth 100000 in
theorem kd_X9_duel : Cond.code mX9_duel.1 mX9_duel.2.1 mX9_duel.2.2.1 mX9_duel.2.2.2 ∈ lw_gd ∧ Cond.initialized mX9_duel.1.cls ∈ lw_gd ∧ (mX9_duel.1.cls ≠ "java/lang/invoke/MethodHandle" ∧ mX9_duel.1.cls ≠ "java/lang/invoke/VarHandle" ∧ (parseMethodDescriptor mX9_duel.1.desc).map (fun d => d.parameters.length) = some 1) ∧ mX9_duel.2.2.1 ≤ 80 := ⟨(px_in5 33 rfl rfl), (px_in1 1 rfl rfl), by decide +kernel, by decide⟩
set_option maxRecDepth 100000 in
theorem kd_X9_scourge : Cond.code mX9_scourge.1 mX9_scourge.2.1 mX9_scourge.2.2.1 mX9_scourge.2.2.2 ∈ lw_gd ∧ Cond.initialized mX9_scourge.1.cls ∈ lw_gd ∧ (mX9_scourge.1.cls ≠ "java/lang/invoke/MethodHandle" ∧ mX9_scourge.1.cls ≠ "java/lang/invoke/VarHandle" ∧ (parseMethodDescriptor mX9_scourge.1.desc).map (fun d => d.parameters.length) = some 1) ∧ mX9_scourge.2.2.1 ≤ 80 := ⟨(px_in5 45 rfl rfl), (px_in1 1 rfl rfl), by decide +kernel, by decide⟩
set_option maxRecDepth 100000 in
theorem kd_X9_relief : Cond.code mX9_relief.1 mX9_relief.2.1 mX9_relief.2.2.1 mX9_relief.2.2.2 ∈ lw_gd ∧ Cond.initialized mX9_relief.1.cls ∈ lw_gd ∧ (mX9_relief.1.cls ≠ "java/lang/invoke/MethodHandle" ∧ mX9_relief.1.cls ≠ "java/lang/invoke/VarHandle" ∧ (parseMethodDescriptor mX9_relief.1.desc).map (fun d => d.parameters.length) = some 2) ∧ mX9_relief.2.2.1 ≤ 80 := ⟨(px_in5 53 rfl rfl), (px_in1 1 rfl rfl), by decide +kernel, by decide⟩
set_option maxRecDepth 100000 in
theorem kd_X9_sorest : Cond.code mX9_sorest.1 mX9_sorest.2.1 mX9_sorest.2.2.1 mX9_sorest.2.2.2 ∈ lw_gd ∧ Cond.initialized mX9_sorest.1.cls ∈ lw_gd ∧ (mX9_sorest.1.cls ≠ "java/lang/invoke/MethodHandle" ∧ mX9_sorest.1.cls ≠ "java/lang/invoke/VarHandle" ∧ (parseMethodDescriptor mX9_sorest.1.desc).map (fun d => d.parameters.length) = some 0) ∧ mX9_sorest.2.2.1 ≤ 80 := ⟨(px_in5 62 rfl rfl), (px_in1 1 rfl rfl), by decide +kernel, by decide⟩
set_option maxRecDepth 100000 in
theorem kd_X9_firmest : Cond.code mX9_firmest.1 mX9_firmest.2.1 mX9_firmest.2.2.1 mX9_firmest.2.2.2 ∈ lw_gd ∧ Cond.initialized mX9_firmest.1.cls ∈ lw_gd ∧ (mX9_firmest.1.cls ≠ "java/lang/invoke/MethodHandle" ∧ mX9_firmest.1.cls ≠ "java/lang/invoke/VarHandle" ∧ (parseMethodDescriptor mX9_firmest.1.desc).map (fun d => d.parameters.length) = some 0) ∧ mX9_firmest.2.2.1 ≤ 80 := ⟨(px_in5 70 rfl rfl), (px_in1 1 rfl rfl), by decide +kernel, by decide⟩
set_option maxRecDepth 100000 in
theorem kd_X9_due : Cond.code mX9_due.1 mX9_due.2.1 mX9_due.2.2.1 mX9_due.2.2.2 ∈ lw_gd ∧ Cond.initialized mX9_due.1.cls ∈ lw_gd ∧ (mX9_due.1.cls ≠ "java/lang/invoke/MethodHandle" ∧ mX9_due.1.cls ≠ "java/lang/invoke/VarHandle" ∧ (parseMethodDescriptor mX9_due.1.desc).map (fun d => d.parameters.length) = some 0) ∧ mX9_due.2.2.1 ≤ 80 := ⟨(px_in5 74 rfl rfl), (px_in1 1 rfl rfl), by decide +kernel, by decide⟩
set_option maxRecDepth 100000 in
theorem kd_X9_friends : Cond.code mX9_friends.1 mX9_friends.2.1 mX9_friends.2.2.1 mX9_friends.2.2.2 ∈ lw_gd ∧ Cond.initialized mX9_friends.1.cls ∈ lw_gd ∧ (mX9_friends.1.cls ≠ "java/lang/invoke/MethodHandle" ∧ mX9_friends.1.cls ≠ "java/lang/invoke/VarHandle" ∧ (parseMethodDescriptor mX9_friends.1.desc).map (fun d => d.parameters.length) = some 1) ∧ mX9_friends.2.2.1 ≤ 80 := ⟨(px_in5 79 rfl rfl), (px_in1 1 rfl rfl), by decide +kernel, by decide⟩
set_option maxRecDepth 100000 in
theorem kd_X9_uncared : Cond.code mX9_uncared.1 mX9_uncared.2.1 mX9_uncared.2.2.1 mX9_uncared.2.2.2 ∈ lw_gd ∧ Cond.initialized mX9_uncared.1.cls ∈ lw_gd ∧ (mX9_uncared.1.cls ≠ "java/lang/invoke/MethodHandle" ∧ mX9_uncared.1.cls ≠ "java/lang/invoke/VarHandle" ∧ (parseMethodDescriptor mX9_uncared.1.desc).map (fun d => d.parameters.length) = some 0) ∧ mX9_uncared.2.2.1 ≤ 80 := ⟨(px_in5 84 rfl rfl), (px_in1 1 rfl rfl), by decide +kernel, by decide⟩
set_option maxRecDepth 100000 in
theorem kd_X9_law : Cond.code mX9_law.1 mX9_law.2.1 mX9_law.2.2.1 mX9_law.2.2.2 ∈ lw_gd ∧ Cond.initialized mX9_law.1.cls ∈ lw_gd ∧ (mX9_law.1.cls ≠ "java/lang/invoke/MethodHandle" ∧ mX9_law.1.cls ≠ "java/lang/invoke/VarHandle" ∧ (parseMethodDescriptor mX9_law.1.desc).map (fun d => d.parameters.length) = some 1) ∧ mX9_law.2.2.1 ≤ 80 := ⟨(px_in5 89 rfl rfl), (px_in1 1 rfl rfl), by decide +kernel, by decide⟩
set_option maxRecDepth 100000 in
theorem kd_X9_next : Cond.code mX9_next.1 mX9_next.2.1 mX9_next.2.2.1 mX9_next.2.2.2 ∈ lw_gd ∧ Cond.initialized mX9_next.1.cls ∈ lw_gd ∧ (mX9_next.1.cls ≠ "java/lang/invoke/MethodHandle" ∧ mX9_next.1.cls ≠ "java/lang/invoke/VarHandle" ∧ (parseMethodDescriptor mX9_next.1.desc).map (fun d => d.parameters.length) = some 1) ∧ mX9_next.2.2.1 ≤ 80 := ⟨(px_in5 100 rfl rfl), (px_in1 1 rfl rfl), by decide +kernel, by decide⟩
set_option maxRecDepth 100000 in
theorem kd_X9_odds : Cond.code mX9_odds.1 mX9_odds.2.1 mX9_odds.2.2.1 mX9_odds.2.2.2 ∈ lw_gd ∧ Cond.initialized mX9_odds.1.cls ∈ lw_gd ∧ (mX9_odds.1.cls ≠ "java/lang/invoke/MethodHandle" ∧ mX9_odds.1.cls ≠ "java/lang/invoke/VarHandle" ∧ (parseMethodDescriptor mX9_odds.1.desc).map (fun d => d.parameters.length) = some 2) ∧ mX9_odds.2.2.1 ≤ 80 := ⟨(px_in5 108 rfl rfl), (px_in1 1 rfl rfl), by decide +kernel, by decide⟩
set_option maxRecDepth 100000 in
theorem kd_X9_lies : Cond.code mX9_lies.1 mX9_lies.2.1 mX9_lies.2.2.1 mX9_lies.2.2.2 ∈ lw_gd ∧ Cond.initialized mX9_lies.1.cls ∈ lw_gd ∧ (mX9_lies.1.cls ≠ "java/lang/invoke/MethodHandle" ∧ mX9_lies.1.cls ≠ "java/lang/invoke/VarHandle" ∧ (parseMethodDescriptor mX9_lies.1.desc).map (fun d => d.parameters.length) = some 1) ∧ mX9_lies.2.2.1 ≤ 80 := ⟨(px_in5 116 rfl rfl), (px_in1 1 rfl rfl), by decide +kernel, by decide⟩
set_option maxRecDepth 100000 in
theorem kd_X9_seen : Cond.code mX9_seen.1 mX9_seen.2.1 mX9_seen.2.2.1 mX9_seen.2.2.2 ∈ lw_gd ∧ Cond.initialized mX9_seen.1.cls ∈ lw_gd ∧ (mX9_seen.1.cls ≠ "java/lang/invoke/MethodHandle" ∧ mX9_seen.1.cls ≠ "java/lang/invoke/VarHandle" ∧ (parseMethodDescriptor mX9_seen.1.desc).map (fun d => d.parameters.length) = some 4) ∧ mX9_seen.2.2.1 ≤ 80 := ⟨(px_in5 120 rfl rfl), (px_in1 1 rfl rfl), by decide +kernel, by decide⟩
set_option maxRecDepth 100000 in
theorem kd_X9_untell : Cond.code mX9_untell.1 mX9_untell.2.1 mX9_untell.2.2.1 mX9_untell.2.2.2 ∈ lw_gd ∧ Cond.initialized mX9_untell.1.cls ∈ lw_gd ∧ (mX9_untell.1.cls ≠ "java/lang/invoke/MethodHandle" ∧ mX9_untell.1.cls ≠ "java/lang/invoke/VarHandle" ∧ (parseMethodDescriptor mX9_untell.1.desc).map (fun d => d.parameters.length) = some 1) ∧ mX9_untell.2.2.1 ≤ 80 := ⟨(px_in5 128 rfl rfl), (px_in1 1 rfl rfl), by decide +kernel, by decide⟩
set_option maxRecDepth 100000 in
theorem kd_X9_later : Cond.code mX9_later.1 mX9_later.2.1 mX9_later.2.2.1 mX9_later.2.2.2 ∈ lw_gd ∧ Cond.initialized mX9_later.1.cls ∈ lw_gd ∧ (mX9_later.1.cls ≠ "java/lang/invoke/MethodHandle" ∧ mX9_later.1.cls ≠ "java/lang/invoke/VarHandle" ∧ (parseMethodDescriptor mX9_later.1.desc).map (fun d => d.parameters.length) = some 1) ∧ mX9_later.2.2.1 ≤ 80 := ⟨(px_in5 136 rfl rfl), (px_in1 1 rfl rfl), by decide +kernel, by decide⟩
set_option maxRecDepth 100000 in
theorem kd_X9_fits : Cond.code mX9_fits.1 mX9_fits.2.1 mX9_fits.2.2.1 mX9_fits.2.2.2 ∈ lw_gd ∧ Cond.initialized mX9_fits.1.cls ∈ lw_gd ∧ (mX9_fits.1.cls ≠ "java/lang/invoke/MethodHandle" ∧ mX9_fits.1.cls ≠ "java/lang/invoke/VarHandle" ∧ (parseMethodDescriptor mX9_fits.1.desc).map (fun d => d.parameters.length) = some 1) ∧ mX9_fits.2.2.1 ≤ 80 := ⟨(px_in5 145 rfl rfl), (px_in1 1 rfl rfl), by decide +kernel, by decide⟩
set_option maxRecDepth 100000 in
theorem kd_X9_sure : Cond.code mX9_sure.1 mX9_sure.2.1 mX9_sure.2.2.1 mX9_sure.2.2.2 ∈ lw_gd ∧ Cond.initialized mX9_sure.1.cls ∈ lw_gd ∧ (mX9_sure.1.cls ≠ "java/lang/invoke/MethodHandle" ∧ mX9_sure.1.cls ≠ "java/lang/invoke/VarHandle" ∧ (parseMethodDescriptor mX9_sure.1.desc).map (fun d => d.parameters.length) = some 2) ∧ mX9_sure.2.2.1 ≤ 80 := ⟨(px_in5 170 rfl rfl), (px_in1 1 rfl rfl), by decide +kernel, by decide⟩
set_option maxRecDepth 100000 in
theorem kd_X9_ask : Cond.code mX9_ask.1 mX9_ask.2.1 mX9_ask.2.2.1 mX9_ask.2.2.2 ∈ lw_gd ∧ Cond.initialized mX9_ask.1.cls ∈ lw_gd ∧ (mX9_ask.1.cls ≠ "java/lang/invoke/MethodHandle" ∧ mX9_ask.1.cls ≠ "java/lang/invoke/VarHandle" ∧ (parseMethodDescriptor mX9_ask.1.desc).map (fun d => d.parameters.length) = some 3) ∧ mX9_ask.2.2.1 ≤ 80 := ⟨(px_in5 174 rfl rfl), (px_in1 1 rfl rfl), by decide +kernel, by decide⟩
set_option maxRecDepth 100000 in
theorem kd_X9_image : Cond.code mX9_image.1 mX9_image.2.1 mX9_image.2.2.1 mX9_image.2.2.2 ∈ lw_gd ∧ Cond.initialized mX9_image.1.cls ∈ lw_gd ∧ (mX9_image.1.cls ≠ "java/lang/invoke/MethodHandle" ∧ mX9_image.1.cls ≠ "java/lang/invoke/VarHandle" ∧ (parseMethodDescriptor mX9_image.1.desc).map (fun d => d.parameters.length) = some 1) ∧ mX9_image.2.2.1 ≤ 80 := ⟨(px_in5 184 rfl rfl), (px_in1 1 rfl rfl), by decide +kernel, by decide⟩
set_option maxRecDepth 100000 in
theorem kd_X9_back : Cond.code mX9_back.1 mX9_back.2.1 mX9_back.2.2.1 mX9_back.2.2.2 ∈ lw_gd ∧ Cond.initialized mX9_back.1.cls ∈ lw_gd ∧ (mX9_back.1.cls ≠ "java/lang/invoke/MethodHandle" ∧ mX9_back.1.cls ≠ "java/lang/invoke/VarHandle" ∧ (parseMethodDescriptor mX9_back.1.desc).map (fun d => d.parameters.length) = some 1) ∧ mX9_back.2.2.1 ≤ 80 := ⟨(px_in5 192 rfl rfl), (px_in1 1 rfl rfl), by decide +kernel, by decide⟩
set_option maxRecDepth 100000 in
theorem kd_X9_about : Cond.code mX9_about.1 mX9_about.2.1 mX9_about.2.2.1 mX9_about.2.2.2 ∈ lw_gd ∧ Cond.initialized mX9_about.1.cls ∈ lw_gd ∧ (mX9_about.1.cls ≠ "java/lang/invoke/MethodHandle" ∧ mX9_about.1.cls ≠ "java/lang/invoke/VarHandle" ∧ (parseMethodDescriptor mX9_about.1.desc).map (fun d => d.parameters.length) = some 1) ∧ mX9_about.2.2.1 ≤ 80 := ⟨(px_in5 197 rfl rfl), (px_in1 1 rfl rfl), by decide +kernel, by decide⟩
set_option maxRecDepth 100000 in
theorem kd_X9_isPerson : Cond.code mX9_isPerson.1 mX9_isPerson.2.1 mX9_isPerson.2.2.1 mX9_isPerson.2.2.2 ∈ lw_gd ∧ Cond.initialized mX9_isPerson.1.cls ∈ lw_gd ∧ (mX9_isPerson.1.cls ≠ "java/lang/invoke/MethodHandle" ∧ mX9_isPerson.1.cls ≠ "java/lang/invoke/VarHandle" ∧ (parseMethodDescriptor mX9_isPerson.1.desc).map (fun d => d.parameters.length) = some 1) ∧ mX9_isPerson.2.2.1 ≤ 80 := ⟨(px_in3 220 rfl rfl), (px_in1 1 rfl rfl), by decide +kernel, by decide⟩
set_option maxRecDepth 100000 in
theorem kd_X9_isMeeting : Cond.code mX9_isMeeting.1 mX9_isMeeting.2.1 mX9_isMeeting.2.2.1 mX9_isMeeting.2.2.2 ∈ lw_gd ∧ Cond.initialized mX9_isMeeting.1.cls ∈ lw_gd ∧ (mX9_isMeeting.1.cls ≠ "java/lang/invoke/MethodHandle" ∧ mX9_isMeeting.1.cls ≠ "java/lang/invoke/VarHandle" ∧ (parseMethodDescriptor mX9_isMeeting.1.desc).map (fun d => d.parameters.length) = some 1) ∧ mX9_isMeeting.2.2.1 ≤ 80 := ⟨(px_in3 232 rfl rfl), (px_in1 1 rfl rfl), by decide +kernel, by decide⟩
set_option maxRecDepth 100000 in
theorem kd_X9_isBrother : Cond.code mX9_isBrother.1 mX9_isBrother.2.1 mX9_isBrother.2.2.1 mX9_isBrother.2.2.2 ∈ lw_gd ∧ Cond.initialized mX9_isBrother.1.cls ∈ lw_gd ∧ (mX9_isBrother.1.cls ≠ "java/lang/invoke/MethodHandle" ∧ mX9_isBrother.1.cls ≠ "java/lang/invoke/VarHandle" ∧ (parseMethodDescriptor mX9_isBrother.1.desc).map (fun d => d.parameters.length) = some 1) ∧ mX9_isBrother.2.2.1 ≤ 80 := ⟨(px_in4 4 rfl rfl), (px_in1 1 rfl rfl), by decide +kernel, by decide⟩
set_option maxRecDepth 100000 in
theorem kd_X9_isBox : Cond.code mX9_isBox.1 mX9_isBox.2.1 mX9_isBox.2.2.1 mX9_isBox.2.2.2 ∈ lw_gd ∧ Cond.initialized mX9_isBox.1.cls ∈ lw_gd ∧ (mX9_isBox.1.cls ≠ "java/lang/invoke/MethodHandle" ∧ mX9_isBox.1.cls ≠ "java/lang/invoke/VarHandle" ∧ (parseMethodDescriptor mX9_isBox.1.desc).map (fun d => d.parameters.length) = some 1) ∧ mX9_isBox.2.2.1 ≤ 80 := ⟨(px_in5 187 rfl rfl), (px_in1 1 rfl rfl), by decide +kernel, by decide⟩
set_option maxRecDepth 100000 in
theorem kd_X9_isZeroOrOne : Cond.code mX9_isZeroOrOne.1 mX9_isZeroOrOne.2.1 mX9_isZeroOrOne.2.2.1 mX9_isZeroOrOne.2.2.2 ∈ lw_gd ∧ Cond.initialized mX9_isZeroOrOne.1.cls ∈ lw_gd ∧ (mX9_isZeroOrOne.1.cls ≠ "java/lang/invoke/MethodHandle" ∧ mX9_isZeroOrOne.1.cls ≠ "java/lang/invoke/VarHandle" ∧ (parseMethodDescriptor mX9_isZeroOrOne.1.desc).map (fun d => d.parameters.length) = some 1) ∧ mX9_isZeroOrOne.2.2.1 ≤ 80 := ⟨(px_in4 15 rfl rfl), (px_in1 1 rfl rfl), by decide +kernel, by decide⟩
set_option maxRecDepth 100000 in
theorem kd_X9_isWithin : Cond.code mX9_isWithin.1 mX9_isWithin.2.1 mX9_isWithin.2.2.1 mX9_isWithin.2.2.2 ∈ lw_gd ∧ Cond.initialized mX9_isWithin.1.cls ∈ lw_gd ∧ (mX9_isWithin.1.cls ≠ "java/lang/invoke/MethodHandle" ∧ mX9_isWithin.1.cls ≠ "java/lang/invoke/VarHandle" ∧ (parseMethodDescriptor mX9_isWithin.1.desc).map (fun d => d.parameters.length) = some 2) ∧ mX9_isWithin.2.2.1 ≤ 80 := ⟨(px_in4 117 rfl rfl), (px_in1 1 rfl rfl), by decide +kernel, by decide⟩
set_option maxRecDepth 100000 in
theorem kd_X9_putFour : Cond.code mX9_putFour.1 mX9_putFour.2.1 mX9_putFour.2.2.1 mX9_putFour.2.2.2 ∈ lw_gd ∧ Cond.initialized mX9_putFour.1.cls ∈ lw_gd ∧ (mX9_putFour.1.cls ≠ "java/lang/invoke/MethodHandle" ∧ mX9_putFour.1.cls ≠ "java/lang/invoke/VarHandle" ∧ (parseMethodDescriptor mX9_putFour.1.desc).map (fun d => d.parameters.length) = some 1) ∧ mX9_putFour.2.2.1 ≤ 80 := ⟨(px_in2 236 rfl rfl), (px_in1 1 rfl rfl), by decide +kernel, by decide⟩
set_option maxRecDepth 100000 in
theorem kd_X9_turnForbidden : Cond.code mX9_turnForbidden.1 mX9_turnForbidden.2.1 mX9_turnForbidden.2.2.1 mX9_turnForbidden.2.2.2 ∈ lw_gd ∧ Cond.initialized mX9_turnForbidden.1.cls ∈ lw_gd ∧ (mX9_turnForbidden.1.cls ≠ "java/lang/invoke/MethodHandle" ∧ mX9_turnForbidden.1.cls ≠ "java/lang/invoke/VarHandle" ∧ (parseMethodDescriptor mX9_turnForbidden.1.desc).map (fun d => d.parameters.length) = some 1) ∧ mX9_turnForbidden.2.2.1 ≤ 80 := ⟨(px_in4 81 rfl rfl), (px_in1 1 rfl rfl), by decide +kernel, by decide⟩
set_option maxRecDepth 100000 in
theorem kd_X9_chosen : Cond.code mX9_chosen.1 mX9_chosen.2.1 mX9_chosen.2.2.1 mX9_chosen.2.2.2 ∈ lw_gd ∧ Cond.initialized mX9_chosen.1.cls ∈ lw_gd ∧ (mX9_chosen.1.cls ≠ "java/lang/invoke/MethodHandle" ∧ mX9_chosen.1.cls ≠ "java/lang/invoke/VarHandle" ∧ (parseMethodDescriptor mX9_chosen.1.desc).map (fun d => d.parameters.length) = some 1) ∧ mX9_chosen.2.2.1 ≤ 80 := ⟨(px_in4 229 rfl rfl), (px_in1 1 rfl rfl), by decide +kernel, by decide⟩
set_option maxRecDepth 100000 in
theorem kd_X9_firstGreatest : Cond.code mX9_firstGreatest.1 mX9_firstGreatest.2.1 mX9_firstGreatest.2.2.1 mX9_firstGreatest.2.2.2 ∈ lw_gd ∧ Cond.initialized mX9_firstGreatest.1.cls ∈ lw_gd ∧ (mX9_firstGreatest.1.cls ≠ "java/lang/invoke/MethodHandle" ∧ mX9_firstGreatest.1.cls ≠ "java/lang/invoke/VarHandle" ∧ (parseMethodDescriptor mX9_firstGreatest.1.desc).map (fun d => d.parameters.length) = some 1) ∧ mX9_firstGreatest.2.2.1 ≤ 80 := ⟨(px_in5 66 rfl rfl), (px_in1 1 rfl rfl), by decide +kernel, by decide⟩
set_option maxRecDepth 100000 in
theorem kd_X9_greatestDivisor : Cond.code mX9_greatestDivisor.1 mX9_greatestDivisor.2.1 mX9_greatestDivisor.2.2.1 mX9_greatestDivisor.2.2.2 ∈ lw_gd ∧ Cond.initialized mX9_greatestDivisor.1.cls ∈ lw_gd ∧ (mX9_greatestDivisor.1.cls ≠ "java/lang/invoke/MethodHandle" ∧ mX9_greatestDivisor.1.cls ≠ "java/lang/invoke/VarHandle" ∧ (parseMethodDescriptor mX9_greatestDivisor.1.desc).map (fun d => d.parameters.length) = some 2) ∧ mX9_greatestDivisor.2.2.1 ≤ 80 := ⟨(px_in5 111 rfl rfl), (px_in1 1 rfl rfl), by decide +kernel, by decide⟩
set_option maxRecDepth 100000 in
theorem kd_X10_init : Cond.code mX10_init.1 mX10_init.2.1 mX10_init.2.2.1 mX10_init.2.2.2 ∈ lw_gd ∧ Cond.initialized mX10_init.1.cls ∈ lw_gd ∧ (mX10_init.1.cls ≠ "java/lang/invoke/MethodHandle" ∧ mX10_init.1.cls ≠ "java/lang/invoke/VarHandle" ∧ (parseMethodDescriptor mX10_init.1.desc).map (fun d => d.parameters.length) = some 0) ∧ mX10_init.2.2.1 ≤ 80 := ⟨(px_in5 210 rfl rfl), (px_in1 15 rfl rfl), by decide +kernel, by decide⟩
set_option maxRecDepth 100000 in
theorem kd_X10_feed : Cond.code mX10_feed.1 mX10_feed.2.1 mX10_feed.2.2.1 mX10_feed.2.2.2 ∈ lw_gd ∧ Cond.initialized mX10_feed.1.cls ∈ lw_gd ∧ (mX10_feed.1.cls ≠ "java/lang/invoke/MethodHandle" ∧ mX10_feed.1.cls ≠ "java/lang/invoke/VarHandle" ∧ (parseMethodDescriptor mX10_feed.1.desc).map (fun d => d.parameters.length) = some 5) ∧ mX10_feed.2.2.1 ≤ 80 := ⟨(px_in6 231 rfl rfl), (px_in1 15 rfl rfl), by decide +kernel, by decide⟩
set_option maxRecDepth 100000 in
theorem kd_X10_four : Cond.code mX10_four.1 mX10_four.2.1 mX10_four.2.2.1 mX10_four.2.2.2 ∈ lw_gd ∧ Cond.initialized mX10_four.1.cls ∈ lw_gd ∧ (mX10_four.1.cls ≠ "java/lang/invoke/MethodHandle" ∧ mX10_four.1.cls ≠ "java/lang/invoke/VarHandle" ∧ (parseMethodDescriptor mX10_four.1.desc).map (fun d => d.parameters.length) = some 1) ∧ mX10_four.2.2.1 ≤ 80 := ⟨(px_in6 235 rfl rfl), (px_in1 15 rfl rfl), by decide +kernel, by decide⟩
set_option maxRecDepth 100000 in
theorem kd_X10_end : Cond.code mX10_end.1 mX10_end.2.1 mX10_end.2.2.1 mX10_end.2.2.2 ∈ lw_gd ∧ Cond.initialized mX10_end.1.cls ∈ lw_gd ∧ (mX10_end.1.cls ≠ "java/lang/invoke/MethodHandle" ∧ mX10_end.1.cls ≠ "java/lang/invoke/VarHandle" ∧ (parseMethodDescriptor mX10_end.1.desc).map (fun d => d.parameters.length) = some 1) ∧ mX10_end.2.2.1 ≤ 80 := ⟨(px_in6 239 rfl rfl), (px_in1 15 rfl rfl), by decide +kernel, by decide⟩
set_option maxRecDepth 100000 in
theorem kd_X10_here : Cond.code mX10_here.1 mX10_here.2.1 mX10_here.2.2.1 mX10_here.2.2.2 ∈ lw_gd ∧ Cond.initialized mX10_here.1.cls ∈ lw_gd ∧ (mX10_here.1.cls ≠ "java/lang/invoke/MethodHandle" ∧ mX10_here.1.cls ≠ "java/lang/invoke/VarHandle" ∧ (parseMethodDescriptor mX10_here.1.desc).map (fun d => d.parameters.length) = some 1) ∧ mX10_here.2.2.1 ≤ 80 := ⟨(px_in7 15 rfl rfl), (px_in1 15 rfl rfl), by decide +kernel, by decide⟩
set_option maxRecDepth 100000 in
theorem kd_X10_isLetter : Cond.code mX10_isLetter.1 mX10_isLetter.2.1 mX10_isLetter.2.2.1 mX10_isLetter.2.2.2 ∈ lw_gd ∧ Cond.initialized mX10_isLetter.1.cls ∈ lw_gd ∧ (mX10_isLetter.1.cls ≠ "java/lang/invoke/MethodHandle" ∧ mX10_isLetter.1.cls ≠ "java/lang/invoke/VarHandle" ∧ (parseMethodDescriptor mX10_isLetter.1.desc).map (fun d => d.parameters.length) = some 1) ∧ mX10_isLetter.2.2.1 ≤ 80 := ⟨(px_in7 18 rfl rfl), (px_in1 15 rfl rfl), by decide +kernel, by decide⟩
set_option maxRecDepth 100000 in
theorem kd_X10_isDigit : Cond.code mX10_isDigit.1 mX10_isDigit.2.1 mX10_isDigit.2.2.1 mX10_isDigit.2.2.2 ∈ lw_gd ∧ Cond.initialized mX10_isDigit.1.cls ∈ lw_gd ∧ (mX10_isDigit.1.cls ≠ "java/lang/invoke/MethodHandle" ∧ mX10_isDigit.1.cls ≠ "java/lang/invoke/VarHandle" ∧ (parseMethodDescriptor mX10_isDigit.1.desc).map (fun d => d.parameters.length) = some 1) ∧ mX10_isDigit.2.2.1 ≤ 80 := ⟨(px_in7 21 rfl rfl), (px_in1 15 rfl rfl), by decide +kernel, by decide⟩
set_option maxRecDepth 100000 in
theorem kd_X10_isSign : Cond.code mX10_isSign.1 mX10_isSign.2.1 mX10_isSign.2.2.1 mX10_isSign.2.2.2 ∈ lw_gd ∧ Cond.initialized mX10_isSign.1.cls ∈ lw_gd ∧ (mX10_isSign.1.cls ≠ "java/lang/invoke/MethodHandle" ∧ mX10_isSign.1.cls ≠ "java/lang/invoke/VarHandle" ∧ (parseMethodDescriptor mX10_isSign.1.desc).map (fun d => d.parameters.length) = some 1) ∧ mX10_isSign.2.2.1 ≤ 80 := ⟨(px_in7 24 rfl rfl), (px_in1 15 rfl rfl), by decide +kernel, by decide⟩
set_option maxRecDepth 100000 in
theorem kd_X10_token : Cond.code mX10_token.1 mX10_token.2.1 mX10_token.2.2.1 mX10_token.2.2.2 ∈ lw_gd ∧ Cond.initialized mX10_token.1.cls ∈ lw_gd ∧ (mX10_token.1.cls ≠ "java/lang/invoke/MethodHandle" ∧ mX10_token.1.cls ≠ "java/lang/invoke/VarHandle" ∧ (parseMethodDescriptor mX10_token.1.desc).map (fun d => d.parameters.length) = some 0) ∧ mX10_token.2.2.1 ≤ 80 := ⟨(px_in7 11 rfl rfl), (px_in1 15 rfl rfl), by decide +kernel, by decide⟩
set_option maxRecDepth 100000 in
theorem kd_X10_wrong : Cond.code mX10_wrong.1 mX10_wrong.2.1 mX10_wrong.2.2.1 mX10_wrong.2.2.2 ∈ lw_gd ∧ Cond.initialized mX10_wrong.1.cls ∈ lw_gd ∧ (mX10_wrong.1.cls ≠ "java/lang/invoke/MethodHandle" ∧ mX10_wrong.1.cls ≠ "java/lang/invoke/VarHandle" ∧ (parseMethodDescriptor mX10_wrong.1.desc).map (fun d => d.parameters.length) = some 1) ∧ mX10_wrong.2.2.1 ≤ 80 := ⟨(px_in7 72 rfl rfl), (px_in1 15 rfl rfl), by decide +kernel, by decide⟩
set_option maxRecDepth 100000 in
theorem kd_X10_isWord : Cond.code mX10_isWord.1 mX10_isWord.2.1 mX10_isWord.2.2.1 mX10_isWord.2.2.2 ∈ lw_gd ∧ Cond.initialized mX10_isWord.1.cls ∈ lw_gd ∧ (mX10_isWord.1.cls ≠ "java/lang/invoke/MethodHandle" ∧ mX10_isWord.1.cls ≠ "java/lang/invoke/VarHandle" ∧ (parseMethodDescriptor mX10_isWord.1.desc).map (fun d => d.parameters.length) = some 1) ∧ mX10_isWord.2.2.1 ≤ 80 := ⟨(px_in7 33 rfl rfl), (px_in1 15 rfl rfl), by decide +kernel, by decide⟩
set_option maxRecDepth 100000 in
theorem kd_X10_isOwn : Cond.code mX10_isOwn.1 mX10_isOwn.2.1 mX10_isOwn.2.2.1 mX10_isOwn.2.2.2 ∈ lw_gd ∧ Cond.initialized mX10_isOwn.1.cls ∈ lw_gd ∧ (mX10_isOwn.1.cls ≠ "java/lang/invoke/MethodHandle" ∧ mX10_isOwn.1.cls ≠ "java/lang/invoke/VarHandle" ∧ (parseMethodDescriptor mX10_isOwn.1.desc).map (fun d => d.parameters.length) = some 0) ∧ mX10_isOwn.2.2.1 ≤ 80 := ⟨(px_in7 49 rfl rfl), (px_in1 15 rfl rfl), by decide +kernel, by decide⟩
set_option maxRecDepth 100000 in
theorem kd_X10_isName : Cond.code mX10_isName.1 mX10_isName.2.1 mX10_isName.2.2.1 mX10_isName.2.2.2 ∈ lw_gd ∧ Cond.initialized mX10_isName.1.cls ∈ lw_gd ∧ (mX10_isName.1.cls ≠ "java/lang/invoke/MethodHandle" ∧ mX10_isName.1.cls ≠ "java/lang/invoke/VarHandle" ∧ (parseMethodDescriptor mX10_isName.1.desc).map (fun d => d.parameters.length) = some 0) ∧ mX10_isName.2.2.1 ≤ 80 := ⟨(px_in7 45 rfl rfl), (px_in1 15 rfl rfl), by decide +kernel, by decide⟩
set_option maxRecDepth 100000 in
theorem kd_X10_want : Cond.code mX10_want.1 mX10_want.2.1 mX10_want.2.2.1 mX10_want.2.2.2 ∈ lw_gd ∧ Cond.initialized mX10_want.1.cls ∈ lw_gd ∧ (mX10_want.1.cls ≠ "java/lang/invoke/MethodHandle" ∧ mX10_want.1.cls ≠ "java/lang/invoke/VarHandle" ∧ (parseMethodDescriptor mX10_want.1.desc).map (fun d => d.parameters.length) = some 1) ∧ mX10_want.2.2.1 ≤ 80 := ⟨(px_in7 84 rfl rfl), (px_in1 15 rfl rfl), by decide +kernel, by decide⟩
set_option maxRecDepth 100000 in
theorem kd_X10_toldNumber : Cond.code mX10_toldNumber.1 mX10_toldNumber.2.1 mX10_toldNumber.2.2.1 mX10_toldNumber.2.2.2 ∈ lw_gd ∧ Cond.initialized mX10_toldNumber.1.cls ∈ lw_gd ∧ (mX10_toldNumber.1.cls ≠ "java/lang/invoke/MethodHandle" ∧ mX10_toldNumber.1.cls ≠ "java/lang/invoke/VarHandle" ∧ (parseMethodDescriptor mX10_toldNumber.1.desc).map (fun d => d.parameters.length) = some 2) ∧ mX10_toldNumber.2.2.1 ≤ 80 := ⟨(px_in7 88 rfl rfl), (px_in1 15 rfl rfl), by decide +kernel, by decide⟩
set_option maxRecDepth 100000 in
theorem kd_X10_told : Cond.code mX10_told.1 mX10_told.2.1 mX10_told.2.2.1 mX10_told.2.2.2 ∈ lw_gd ∧ Cond.initialized mX10_told.1.cls ∈ lw_gd ∧ (mX10_told.1.cls ≠ "java/lang/invoke/MethodHandle" ∧ mX10_told.1.cls ≠ "java/lang/invoke/VarHandle" ∧ (parseMethodDescriptor mX10_told.1.desc).map (fun d => d.parameters.length) = some 3) ∧ mX10_told.2.2.1 ≤ 80 := ⟨(px_in7 80 rfl rfl), (px_in1 15 rfl rfl), by decide +kernel, by decide⟩
set_option maxRecDepth 100000 in
theorem kd_X10_mayTell : Cond.code mX10_mayTell.1 mX10_mayTell.2.1 mX10_mayTell.2.2.1 mX10_mayTell.2.2.2 ∈ lw_gd ∧ Cond.initialized mX10_mayTell.1.cls ∈ lw_gd ∧ (mX10_mayTell.1.cls ≠ "java/lang/invoke/MethodHandle" ∧ mX10_mayTell.1.cls ≠ "java/lang/invoke/VarHandle" ∧ (parseMethodDescriptor mX10_mayTell.1.desc).map (fun d => d.parameters.length) = some 2) ∧ mX10_mayTell.2.2.1 ≤ 80 := ⟨(px_in7 92 rfl rfl), (px_in1 15 rfl rfl), by decide +kernel, by decide⟩
set_option maxRecDepth 100000 in
theorem kd_X10_find : Cond.code mX10_find.1 mX10_find.2.1 mX10_find.2.2.1 mX10_find.2.2.2 ∈ lw_gd ∧ Cond.initialized mX10_find.1.cls ∈ lw_gd ∧ (mX10_find.1.cls ≠ "java/lang/invoke/MethodHandle" ∧ mX10_find.1.cls ≠ "java/lang/invoke/VarHandle" ∧ (parseMethodDescriptor mX10_find.1.desc).map (fun d => d.parameters.length) = some 2) ∧ mX10_find.2.2.1 ≤ 80 := ⟨(px_in7 76 rfl rfl), (px_in1 15 rfl rfl), by decide +kernel, by decide⟩
set_option maxRecDepth 100000 in
theorem kd_X10_newName : Cond.code mX10_newName.1 mX10_newName.2.1 mX10_newName.2.2.1 mX10_newName.2.2.2 ∈ lw_gd ∧ Cond.initialized mX10_newName.1.cls ∈ lw_gd ∧ (mX10_newName.1.cls ≠ "java/lang/invoke/MethodHandle" ∧ mX10_newName.1.cls ≠ "java/lang/invoke/VarHandle" ∧ (parseMethodDescriptor mX10_newName.1.desc).map (fun d => d.parameters.length) = some 2) ∧ mX10_newName.2.2.1 ≤ 80 := ⟨(px_in7 41 rfl rfl), (px_in1 15 rfl rfl), by decide +kernel, by decide⟩
set_option maxRecDepth 100000 in
theorem kd_X10_oldPerson : Cond.code mX10_oldPerson.1 mX10_oldPerson.2.1 mX10_oldPerson.2.2.1 mX10_oldPerson.2.2.2 ∈ lw_gd ∧ Cond.initialized mX10_oldPerson.1.cls ∈ lw_gd ∧ (mX10_oldPerson.1.cls ≠ "java/lang/invoke/MethodHandle" ∧ mX10_oldPerson.1.cls ≠ "java/lang/invoke/VarHandle" ∧ (parseMethodDescriptor mX10_oldPerson.1.desc).map (fun d => d.parameters.length) = some 0) ∧ mX10_oldPerson.2.2.1 ≤ 80 := ⟨(px_in7 100 rfl rfl), (px_in1 15 rfl rfl), by decide +kernel, by decide⟩
set_option maxRecDepth 100000 in
theorem kd_X10_add : Cond.code mX10_add.1 mX10_add.2.1 mX10_add.2.2.1 mX10_add.2.2.2 ∈ lw_gd ∧ Cond.initialized mX10_add.1.cls ∈ lw_gd ∧ (mX10_add.1.cls ≠ "java/lang/invoke/MethodHandle" ∧ mX10_add.1.cls ≠ "java/lang/invoke/VarHandle" ∧ (parseMethodDescriptor mX10_add.1.desc).map (fun d => d.parameters.length) = some 2) ∧ mX10_add.2.2.1 ≤ 80 := ⟨(px_in7 143 rfl rfl), (px_in1 15 rfl rfl), by decide +kernel, by decide⟩
set_option maxRecDepth 100000 in
theorem kd_X10_tight : Cond.code mX10_tight.1 mX10_tight.2.1 mX10_tight.2.2.1 mX10_tight.2.2.2 ∈ lw_gd ∧ Cond.initialized mX10_tight.1.cls ∈ lw_gd ∧ (mX10_tight.1.cls ≠ "java/lang/invoke/MethodHandle" ∧ mX10_tight.1.cls ≠ "java/lang/invoke/VarHandle" ∧ (parseMethodDescriptor mX10_tight.1.desc).map (fun d => d.parameters.length) = some 1) ∧ mX10_tight.2.2.1 ≤ 80 := ⟨(px_in7 123 rfl rfl), (px_in1 15 rfl rfl), by decide +kernel, by decide⟩
set_option maxRecDepth 100000 in
theorem kd_X10_close : Cond.code mX10_close.1 mX10_close.2.1 mX10_close.2.2.1 mX10_close.2.2.2 ∈ lw_gd ∧ Cond.initialized mX10_close.1.cls ∈ lw_gd ∧ (mX10_close.1.cls ≠ "java/lang/invoke/MethodHandle" ∧ mX10_close.1.cls ≠ "java/lang/invoke/VarHandle" ∧ (parseMethodDescriptor mX10_close.1.desc).map (fun d => d.parameters.length) = some 1) ∧ mX10_close.2.2.1 ≤ 80 := ⟨(px_in7 155 rfl rfl), (px_in1 15 rfl rfl), by decide +kernel, by decide⟩
set_option maxRecDepth 100000 in
theorem kd_X10_hasRelation : Cond.code mX10_hasRelation.1 mX10_hasRelation.2.1 mX10_hasRelation.2.2.1 mX10_hasRelation.2.2.2 ∈ lw_gd ∧ Cond.initialized mX10_hasRelation.1.cls ∈ lw_gd ∧ (mX10_hasRelation.1.cls ≠ "java/lang/invoke/MethodHandle" ∧ mX10_hasRelation.1.cls ≠ "java/lang/invoke/VarHandle" ∧ (parseMethodDescriptor mX10_hasRelation.1.desc).map (fun d => d.parameters.length) = some 0) ∧ mX10_hasRelation.2.2.1 ≤ 80 := ⟨(px_in7 159 rfl rfl), (px_in1 15 rfl rfl), by decide +kernel, by decide⟩
set_option maxRecDepth 100000 in
theorem kd_X10_mayNot : Cond.code mX10_mayNot.1 mX10_mayNot.2.1 mX10_mayNot.2.2.1 mX10_mayNot.2.2.2 ∈ lw_gd ∧ Cond.initialized mX10_mayNot.1.cls ∈ lw_gd ∧ (mX10_mayNot.1.cls ≠ "java/lang/invoke/MethodHandle" ∧ mX10_mayNot.1.cls ≠ "java/lang/invoke/VarHandle" ∧ (parseMethodDescriptor mX10_mayNot.1.desc).map (fun d => d.parameters.length) = some 0) ∧ mX10_mayNot.2.2.1 ≤ 80 := ⟨(px_in7 120 rfl rfl), (px_in1 15 rfl rfl), by decide +kernel, by decide⟩
set_option maxRecDepth 100000 in
theorem kd_X10_asked : Cond.code mX10_asked.1 mX10_asked.2.1 mX10_asked.2.2.1 mX10_asked.2.2.2 ∈ lw_gd ∧ Cond.initialized mX10_asked.1.cls ∈ lw_gd ∧ (mX10_asked.1.cls ≠ "java/lang/invoke/MethodHandle" ∧ mX10_asked.1.cls ≠ "java/lang/invoke/VarHandle" ∧ (parseMethodDescriptor mX10_asked.1.desc).map (fun d => d.parameters.length) = some 0) ∧ mX10_asked.2.2.1 ≤ 80 := ⟨(px_in7 139 rfl rfl), (px_in1 15 rfl rfl), by decide +kernel, by decide⟩
set_option maxRecDepth 100000 in
theorem kd_X10_isFull : Cond.code mX10_isFull.1 mX10_isFull.2.1 mX10_isFull.2.2.1 mX10_isFull.2.2.2 ∈ lw_gd ∧ Cond.initialized mX10_isFull.1.cls ∈ lw_gd ∧ (mX10_isFull.1.cls ≠ "java/lang/invoke/MethodHandle" ∧ mX10_isFull.1.cls ≠ "java/lang/invoke/VarHandle" ∧ (parseMethodDescriptor mX10_isFull.1.desc).map (fun d => d.parameters.length) = some 0) ∧ mX10_isFull.2.2.1 ≤ 80 := ⟨(px_in7 131 rfl rfl), (px_in1 15 rfl rfl), by decide +kernel, by decide⟩
set_option maxRecDepth 100000 in
theorem kd_X10_countUnit : Cond.code mX10_countUnit.1 mX10_countUnit.2.1 mX10_countUnit.2.2.1 mX10_countUnit.2.2.2 ∈ lw_gd ∧ Cond.initialized mX10_countUnit.1.cls ∈ lw_gd ∧ (mX10_countUnit.1.cls ≠ "java/lang/invoke/MethodHandle" ∧ mX10_countUnit.1.cls ≠ "java/lang/invoke/VarHandle" ∧ (parseMethodDescriptor mX10_countUnit.1.desc).map (fun d => d.parameters.length) = some 0) ∧ mX10_countUnit.2.2.1 ≤ 80 := ⟨(px_in7 135 rfl rfl), (px_in1 15 rfl rfl), by decide +kernel, by decide⟩
set_option maxRecDepth 100000 in
theorem kd_X10_openUp : Cond.code mX10_openUp.1 mX10_openUp.2.1 mX10_openUp.2.2.1 mX10_openUp.2.2.2 ∈ lw_gd ∧ Cond.initialized mX10_openUp.1.cls ∈ lw_gd ∧ (mX10_openUp.1.cls ≠ "java/lang/invoke/MethodHandle" ∧ mX10_openUp.1.cls ≠ "java/lang/invoke/VarHandle" ∧ (parseMethodDescriptor mX10_openUp.1.desc).map (fun d => d.parameters.length) = some 1) ∧ mX10_openUp.2.2.1 ≤ 80 := ⟨(px_in7 127 rfl rfl), (px_in1 15 rfl rfl), by decide +kernel, by decide⟩
set_option maxRecDepth 100000 in
theorem kd_X10_unit : Cond.code mX10_unit.1 mX10_unit.2.1 mX10_unit.2.2.1 mX10_unit.2.2.2 ∈ lw_gd ∧ Cond.initialized mX10_unit.1.cls ∈ lw_gd ∧ (mX10_unit.1.cls ≠ "java/lang/invoke/MethodHandle" ∧ mX10_unit.1.cls ≠ "java/lang/invoke/VarHandle" ∧ (parseMethodDescriptor mX10_unit.1.desc).map (fun d => d.parameters.length) = some 0) ∧ mX10_unit.2.2.1 ≤ 80 := ⟨(px_in7 116 rfl rfl), (px_in1 15 rfl rfl), by decide +kernel, by decide⟩
set_option maxRecDepth 100000 in
theorem kd_X10_sign : Cond.code mX10_sign.1 mX10_sign.2.1 mX10_sign.2.2.1 mX10_sign.2.2.2 ∈ lw_gd ∧ Cond.initialized mX10_sign.1.cls ∈ lw_gd ∧ (mX10_sign.1.cls ≠ "java/lang/invoke/MethodHandle" ∧ mX10_sign.1.cls ≠ "java/lang/invoke/VarHandle" ∧ (parseMethodDescriptor mX10_sign.1.desc).map (fun d => d.parameters.length) = some 0) ∧ mX10_sign.2.2.1 ≤ 80 := ⟨(px_in7 147 rfl rfl), (px_in1 15 rfl rfl), by decide +kernel, by decide⟩
set_option maxRecDepth 100000 in
theorem kd_X10_hasBracket : Cond.code mX10_hasBracket.1 mX10_hasBracket.2.1 mX10_hasBracket.2.2.1 mX10_hasBracket.2.2.2 ∈ lw_gd ∧ Cond.initialized mX10_hasBracket.1.cls ∈ lw_gd ∧ (mX10_hasBracket.1.cls ≠ "java/lang/invoke/MethodHandle" ∧ mX10_hasBracket.1.cls ≠ "java/lang/invoke/VarHandle" ∧ (parseMethodDescriptor mX10_hasBracket.1.desc).map (fun d => d.parameters.length) = some 0) ∧ mX10_hasBracket.2.2.1 ≤ 80 := ⟨(px_in7 151 rfl rfl), (px_in1 15 rfl rfl), by decide +kernel, by decide⟩
set_option maxRecDepth 100000 in
theorem kd_X10_formula : Cond.code mX10_formula.1 mX10_formula.2.1 mX10_formula.2.2.1 mX10_formula.2.2.2 ∈ lw_gd ∧ Cond.initialized mX10_formula.1.cls ∈ lw_gd ∧ (mX10_formula.1.cls ≠ "java/lang/invoke/MethodHandle" ∧ mX10_formula.1.cls ≠ "java/lang/invoke/VarHandle" ∧ (parseMethodDescriptor mX10_formula.1.desc).map (fun d => d.parameters.length) = some 0) ∧ mX10_formula.2.2.1 ≤ 80 := ⟨(px_in7 112 rfl rfl), (px_in1 15 rfl rfl), by decide +kernel, by decide⟩
set_option maxRecDepth 100000 in
theorem kd_X10_truth : Cond.code mX10_truth.1 mX10_truth.2.1 mX10_truth.2.2.1 mX10_truth.2.2.2 ∈ lw_gd ∧ Cond.initialized mX10_truth.1.cls ∈ lw_gd ∧ (mX10_truth.1.cls ≠ "java/lang/invoke/MethodHandle" ∧ mX10_truth.1.cls ≠ "java/lang/invoke/VarHandle" ∧ (parseMethodDescriptor mX10_truth.1.desc).map (fun d => d.parameters.length) = some 1) ∧ mX10_truth.2.2.1 ≤ 80 := ⟨(px_in7 193 rfl rfl), (px_in1 15 rfl rfl), by decide +kernel, by decide⟩
set_option maxRecDepth 100000 in
theorem kd_X10_done : Cond.code mX10_done.1 mX10_done.2.1 mX10_done.2.2.1 mX10_done.2.2.2 ∈ lw_gd ∧ Cond.initialized mX10_done.1.cls ∈ lw_gd ∧ (mX10_done.1.cls ≠ "java/lang/invoke/MethodHandle" ∧ mX10_done.1.cls ≠ "java/lang/invoke/VarHandle" ∧ (parseMethodDescriptor mX10_done.1.desc).map (fun d => d.parameters.length) = some 3) ∧ mX10_done.2.2.1 ≤ 80 := ⟨(px_in7 227 rfl rfl), (px_in1 15 rfl rfl), by decide +kernel, by decide⟩
set_option maxRecDepth 100000 in
theorem kd_X10_within : Cond.code mX10_within.1 mX10_within.2.1 mX10_within.2.2.1 mX10_within.2.2.2 ∈ lw_gd ∧ Cond.initialized mX10_within.1.cls ∈ lw_gd ∧ (mX10_within.1.cls ≠ "java/lang/invoke/MethodHandle" ∧ mX10_within.1.cls ≠ "java/lang/invoke/VarHandle" ∧ (parseMethodDescriptor mX10_within.1.desc).map (fun d => d.parameters.length) = some 3) ∧ mX10_within.2.2.1 ≤ 80 := ⟨(px_in7 224 rfl rfl), (px_in1 15 rfl rfl), by decide +kernel, by decide⟩
set_option maxRecDepth 100000 in
theorem kd_X10_lesser : Cond.code mX10_lesser.1 mX10_lesser.2.1 mX10_lesser.2.2.1 mX10_lesser.2.2.2 ∈ lw_gd ∧ Cond.initialized mX10_lesser.1.cls ∈ lw_gd ∧ (mX10_lesser.1.cls ≠ "java/lang/invoke/MethodHandle" ∧ mX10_lesser.1.cls ≠ "java/lang/invoke/VarHandle" ∧ (parseMethodDescriptor mX10_lesser.1.desc).map (fun d => d.parameters.length) = some 2) ∧ mX10_lesser.2.2.1 ≤ 80 := ⟨(px_in8 26 rfl rfl), (px_in1 15 rfl rfl), by decide +kernel, by decide⟩
set_option maxRecDepth 100000 in
theorem kd_X10_greater : Cond.code mX10_greater.1 mX10_greater.2.1 mX10_greater.2.2.1 mX10_greater.2.2.2 ∈ lw_gd ∧ Cond.initialized mX10_greater.1.cls ∈ lw_gd ∧ (mX10_greater.1.cls ≠ "java/lang/invoke/MethodHandle" ∧ mX10_greater.1.cls ≠ "java/lang/invoke/VarHandle" ∧ (parseMethodDescriptor mX10_greater.1.desc).map (fun d => d.parameters.length) = some 2) ∧ mX10_greater.2.2.1 ≤ 80 := ⟨(px_in8 37 rfl rfl), (px_in1 15 rfl rfl), by decide +kernel, by decide⟩
set_option maxRecDepth 100000 in
theorem kd_X10_members : Cond.code mX10_members.1 mX10_members.2.1 mX10_members.2.2.1 mX10_members.2.2.2 ∈ lw_gd ∧ Cond.initialized mX10_members.1.cls ∈ lw_gd ∧ (mX10_members.1.cls ≠ "java/lang/invoke/MethodHandle" ∧ mX10_members.1.cls ≠ "java/lang/invoke/VarHandle" ∧ (parseMethodDescriptor mX10_members.1.desc).map (fun d => d.parameters.length) = some 1) ∧ mX10_members.2.2.1 ≤ 80 := ⟨(px_in8 104 rfl rfl), (px_in1 15 rfl rfl), by decide +kernel, by decide⟩
set_option maxRecDepth 100000 in
theorem kd_X10_touchOf : Cond.code mX10_touchOf.1 mX10_touchOf.2.1 mX10_touchOf.2.2.1 mX10_touchOf.2.2.2 ∈ lw_gd ∧ Cond.initialized mX10_touchOf.1.cls ∈ lw_gd ∧ (mX10_touchOf.1.cls ≠ "java/lang/invoke/MethodHandle" ∧ mX10_touchOf.1.cls ≠ "java/lang/invoke/VarHandle" ∧ (parseMethodDescriptor mX10_touchOf.1.desc).map (fun d => d.parameters.length) = some 3) ∧ mX10_touchOf.2.2.1 ≤ 80 := ⟨(px_in7 221 rfl rfl), (px_in1 15 rfl rfl), by decide +kernel, by decide⟩
set_option maxRecDepth 100000 in
theorem kd_X10_readPerson : Cond.code mX10_readPerson.1 mX10_readPerson.2.1 mX10_readPerson.2.2.1 mX10_readPerson.2.2.2 ∈ lw_gd ∧ Cond.initialized mX10_readPerson.1.cls ∈ lw_gd ∧ (mX10_readPerson.1.cls ≠ "java/lang/invoke/MethodHandle" ∧ mX10_readPerson.1.cls ≠ "java/lang/invoke/VarHandle" ∧ (parseMethodDescriptor mX10_readPerson.1.desc).map (fun d => d.parameters.length) = some 0) ∧ mX10_readPerson.2.2.1 ≤ 80 := ⟨(px_in7 37 rfl rfl), (px_in1 15 rfl rfl), by decide +kernel, by decide⟩
set_option maxRecDepth 100000 in
theorem kd_X10_readMeeting : Cond.code mX10_readMeeting.1 mX10_readMeeting.2.1 mX10_readMeeting.2.2.1 mX10_readMeeting.2.2.2 ∈ lw_gd ∧ Cond.initialized mX10_readMeeting.1.cls ∈ lw_gd ∧ (mX10_readMeeting.1.cls ≠ "java/lang/invoke/MethodHandle" ∧ mX10_readMeeting.1.cls ≠ "java/lang/invoke/VarHandle" ∧ (parseMethodDescriptor mX10_readMeeting.1.desc).map (fun d => d.parameters.length) = some 0) ∧ mX10_readMeeting.2.2.1 ≤ 80 := ⟨(px_in7 96 rfl rfl), (px_in1 15 rfl rfl), by decide +kernel, by decide⟩
set_option maxRecDepth 100000 in
theorem kd_X10_readOne : Cond.code mX10_readOne.1 mX10_readOne.2.1 mX10_readOne.2.2.1 mX10_readOne.2.2.2 ∈ lw_gd ∧ Cond.initialized mX10_readOne.1.cls ∈ lw_gd ∧ (mX10_readOne.1.cls ≠ "java/lang/invoke/MethodHandle" ∧ mX10_readOne.1.cls ≠ "java/lang/invoke/VarHandle" ∧ (parseMethodDescriptor mX10_readOne.1.desc).map (fun d => d.parameters.length) = some 0) ∧ mX10_readOne.2.2.1 ≤ 80 := ⟨(px_in7 108 rfl rfl), (px_in1 15 rfl rfl), by decide +kernel, by decide⟩
set_option maxRecDepth 100000 in
theorem kd_X10_readBrother : Cond.code mX10_readBrother.1 mX10_readBrother.2.1 mX10_readBrother.2.2.1 mX10_readBrother.2.2.2 ∈ lw_gd ∧ Cond.initialized mX10_readBrother.1.cls ∈ lw_gd ∧ (mX10_readBrother.1.cls ≠ "java/lang/invoke/MethodHandle" ∧ mX10_readBrother.1.cls ≠ "java/lang/invoke/VarHandle" ∧ (parseMethodDescriptor mX10_readBrother.1.desc).map (fun d => d.parameters.length) = some 0) ∧ mX10_readBrother.2.2.1 ≤ 80 := ⟨(px_in7 104 rfl rfl), (px_in1 15 rfl rfl), by decide +kernel, by decide⟩
set_option maxRecDepth 100000 in
theorem kd_X10_readLine : Cond.code mX10_readLine.1 mX10_readLine.2.1 mX10_readLine.2.2.1 mX10_readLine.2.2.2 ∈ lw_gd ∧ Cond.initialized mX10_readLine.1.cls ∈ lw_gd ∧ (mX10_readLine.1.cls ≠ "java/lang/invoke/MethodHandle" ∧ mX10_readLine.1.cls ≠ "java/lang/invoke/VarHandle" ∧ (parseMethodDescriptor mX10_readLine.1.desc).map (fun d => d.parameters.length) = some 0) ∧ mX10_readLine.2.2.1 ≤ 80 := ⟨(px_in7 28 rfl rfl), (px_in1 15 rfl rfl), by decide +kernel, by decide⟩
set_option maxRecDepth 100000 in
theorem kd_X10_readAll : Cond.code mX10_readAll.1 mX10_readAll.2.1 mX10_readAll.2.2.1 mX10_readAll.2.2.2 ∈ lw_gd ∧ Cond.initialized mX10_readAll.1.cls ∈ lw_gd ∧ (mX10_readAll.1.cls ≠ "java/lang/invoke/MethodHandle" ∧ mX10_readAll.1.cls ≠ "java/lang/invoke/VarHandle" ∧ (parseMethodDescriptor mX10_readAll.1.desc).map (fun d => d.parameters.length) = some 0) ∧ mX10_readAll.2.2.1 ≤ 80 := ⟨(px_in7 7 rfl rfl), (px_in1 15 rfl rfl), by decide +kernel, by decide⟩
set_option maxRecDepth 100000 in
theorem kd_X10_hamlet : Cond.code mX10_hamlet.1 mX10_hamlet.2.1 mX10_hamlet.2.2.1 mX10_hamlet.2.2.2 ∈ lw_gd ∧ Cond.initialized mX10_hamlet.1.cls ∈ lw_gd ∧ (mX10_hamlet.1.cls ≠ "java/lang/invoke/MethodHandle" ∧ mX10_hamlet.1.cls ≠ "java/lang/invoke/VarHandle" ∧ (parseMethodDescriptor mX10_hamlet.1.desc).map (fun d => d.parameters.length) = some 0) ∧ mX10_hamlet.2.2.1 ≤ 80 := ⟨(px_in7 3 rfl rfl), (px_in1 15 rfl rfl), by decide +kernel, by decide⟩
set_option maxRecDepth 100000 in
theorem kd_X10_fault : Cond.code mX10_fault.1 mX10_fault.2.1 mX10_fault.2.2.1 mX10_fault.2.2.2 ∈ lw_gd ∧ Cond.initialized mX10_fault.1.cls ∈ lw_gd ∧ (mX10_fault.1.cls ≠ "java/lang/invoke/MethodHandle" ∧ mX10_fault.1.cls ≠ "java/lang/invoke/VarHandle" ∧ (parseMethodDescriptor mX10_fault.1.desc).map (fun d => d.parameters.length) = some 1) ∧ mX10_fault.2.2.1 ≤ 80 := ⟨(px_in7 171 rfl rfl), (px_in1 15 rfl rfl), by decide +kernel, by decide⟩
set_option maxRecDepth 100000 in
theorem kd_X10_isIn : Cond.code mX10_isIn.1 mX10_isIn.2.1 mX10_isIn.2.2.1 mX10_isIn.2.2.2 ∈ lw_gd ∧ Cond.initialized mX10_isIn.1.cls ∈ lw_gd ∧ (mX10_isIn.1.cls ≠ "java/lang/invoke/MethodHandle" ∧ mX10_isIn.1.cls ≠ "java/lang/invoke/VarHandle" ∧ (parseMethodDescriptor mX10_isIn.1.desc).map (fun d => d.parameters.length) = some 3) ∧ mX10_isIn.2.2.1 ≤ 80 := ⟨(px_in7 182 rfl rfl), (px_in1 15 rfl rfl), by decide +kernel, by decide⟩
set_option maxRecDepth 100000 in
theorem kd_X10_isPerson : Cond.code mX10_isPerson.1 mX10_isPerson.2.1 mX10_isPerson.2.2.1 mX10_isPerson.2.2.2 ∈ lw_gd ∧ Cond.initialized mX10_isPerson.1.cls ∈ lw_gd ∧ (mX10_isPerson.1.cls ≠ "java/lang/invoke/MethodHandle" ∧ mX10_isPerson.1.cls ≠ "java/lang/invoke/VarHandle" ∧ (parseMethodDescriptor mX10_isPerson.1.desc).map (fun d => d.parameters.length) = some 1) ∧ mX10_isPerson.2.2.1 ≤ 80 := ⟨(px_in7 179 rfl rfl), (px_in1 15 rfl rfl), by decide +kernel, by decide⟩
set_option maxRecDepth 100000 in
theorem kd_X10_isMeeting : Cond.code mX10_isMeeting.1 mX10_isMeeting.2.1 mX10_isMeeting.2.2.1 mX10_isMeeting.2.2.2 ∈ lw_gd ∧ Cond.initialized mX10_isMeeting.1.cls ∈ lw_gd ∧ (mX10_isMeeting.1.cls ≠ "java/lang/invoke/MethodHandle" ∧ mX10_isMeeting.1.cls ≠ "java/lang/invoke/VarHandle" ∧ (parseMethodDescriptor mX10_isMeeting.1.desc).map (fun d => d.parameters.length) = some 1) ∧ mX10_isMeeting.2.2.1 ≤ 80 := ⟨(px_in7 201 rfl rfl), (px_in1 15 rfl rfl), by decide +kernel, by decide⟩
set_option maxRecDepth 100000 in
theorem kd_X10_isBrother : Cond.code mX10_isBrother.1 mX10_isBrother.2.1 mX10_isBrother.2.2.1 mX10_isBrother.2.2.2 ∈ lw_gd ∧ Cond.initialized mX10_isBrother.1.cls ∈ lw_gd ∧ (mX10_isBrother.1.cls ≠ "java/lang/invoke/MethodHandle" ∧ mX10_isBrother.1.cls ≠ "java/lang/invoke/VarHandle" ∧ (parseMethodDescriptor mX10_isBrother.1.desc).map (fun d => d.parameters.length) = some 1) ∧ mX10_isBrother.2.2.1 ≤ 80 := ⟨(px_in7 209 rfl rfl), (px_in1 15 rfl rfl), by decide +kernel, by decide⟩
set_option maxRecDepth 100000 in
theorem kd_X10_fill : Cond.code mX10_fill.1 mX10_fill.2.1 mX10_fill.2.2.1 mX10_fill.2.2.2 ∈ lw_gd ∧ Cond.initialized mX10_fill.1.cls ∈ lw_gd ∧ (mX10_fill.1.cls ≠ "java/lang/invoke/MethodHandle" ∧ mX10_fill.1.cls ≠ "java/lang/invoke/VarHandle" ∧ (parseMethodDescriptor mX10_fill.1.desc).map (fun d => d.parameters.length) = some 0) ∧ mX10_fill.2.2.1 ≤ 80 := ⟨(px_in7 186 rfl rfl), (px_in1 15 rfl rfl), by decide +kernel, by decide⟩
set_option maxRecDepth 100000 in
theorem kd_X10_keepAir : Cond.code mX10_keepAir.1 mX10_keepAir.2.1 mX10_keepAir.2.2.1 mX10_keepAir.2.2.2 ∈ lw_gd ∧ Cond.initialized mX10_keepAir.1.cls ∈ lw_gd ∧ (mX10_keepAir.1.cls ≠ "java/lang/invoke/MethodHandle" ∧ mX10_keepAir.1.cls ≠ "java/lang/invoke/VarHandle" ∧ (parseMethodDescriptor mX10_keepAir.1.desc).map (fun d => d.parameters.length) = some 0) ∧ mX10_keepAir.2.2.1 ≤ 80 := ⟨(px_in7 167 rfl rfl), (px_in1 15 rfl rfl), by decide +kernel, by decide⟩
set_option maxRecDepth 100000 in
theorem kd_X10_layTold : Cond.code mX10_layTold.1 mX10_layTold.2.1 mX10_layTold.2.2.1 mX10_layTold.2.2.2 ∈ lw_gd ∧ Cond.initialized mX10_layTold.1.cls ∈ lw_gd ∧ (mX10_layTold.1.cls ≠ "java/lang/invoke/MethodHandle" ∧ mX10_layTold.1.cls ≠ "java/lang/invoke/VarHandle" ∧ (parseMethodDescriptor mX10_layTold.1.desc).map (fun d => d.parameters.length) = some 0) ∧ mX10_layTold.2.2.1 ≤ 80 := ⟨(px_in7 163 rfl rfl), (px_in1 15 rfl rfl), by decide +kernel, by decide⟩
set_option maxRecDepth 100000 in
theorem kd_X10_isAbed : Cond.code mX10_isAbed.1 mX10_isAbed.2.1 mX10_isAbed.2.2.1 mX10_isAbed.2.2.2 ∈ lw_gd ∧ Cond.initialized mX10_isAbed.1.cls ∈ lw_gd ∧ (mX10_isAbed.1.cls ≠ "java/lang/invoke/MethodHandle" ∧ mX10_isAbed.1.cls ≠ "java/lang/invoke/VarHandle" ∧ (parseMethodDescriptor mX10_isAbed.1.desc).map (fun d => d.parameters.length) = some 1) ∧ mX10_isAbed.2.2.1 ≤ 80 := ⟨(px_in7 190 rfl rfl), (px_in1 15 rfl rfl), by decide +kernel, by decide⟩
set_option maxRecDepth 100000 in
theorem kd_X10_abedOnes : Cond.code mX10_abedOnes.1 mX10_abedOnes.2.1 mX10_abedOnes.2.2.1 mX10_abedOnes.2.2.2 ∈ lw_gd ∧ Cond.initialized mX10_abedOnes.1.cls ∈ lw_gd ∧ (mX10_abedOnes.1.cls ≠ "java/lang/invoke/MethodHandle" ∧ mX10_abedOnes.1.cls ≠ "java/lang/invoke/VarHandle" ∧ (parseMethodDescriptor mX10_abedOnes.1.desc).map (fun d => d.parameters.length) = some 0) ∧ mX10_abedOnes.2.2.1 ≤ 80 := ⟨(px_in7 235 rfl rfl), (px_in1 15 rfl rfl), by decide +kernel, by decide⟩
set_option maxRecDepth 100000 in
theorem kd_X10_isBanned : Cond.code mX10_isBanned.1 mX10_isBanned.2.1 mX10_isBanned.2.2.1 mX10_isBanned.2.2.2 ∈ lw_gd ∧ Cond.initialized mX10_isBanned.1.cls ∈ lw_gd ∧ (mX10_isBanned.1.cls ≠ "java/lang/invoke/MethodHandle" ∧ mX10_isBanned.1.cls ≠ "java/lang/invoke/VarHandle" ∧ (parseMethodDescriptor mX10_isBanned.1.desc).map (fun d => d.parameters.length) = some 1) ∧ mX10_isBanned.2.2.1 ≤ 80 := ⟨(px_in8 15 rfl rfl), (px_in1 15 rfl rfl), by decide +kernel, by decide⟩
set_option maxRecDepth 100000 in
theorem kd_X10_takesPlace : Cond.code mX10_takesPlace.1 mX10_takesPlace.2.1 mX10_takesPlace.2.2.1 mX10_takesPlace.2.2.2 ∈ lw_gd ∧ Cond.initialized mX10_takesPlace.1.cls ∈ lw_gd ∧ (mX10_takesPlace.1.cls ≠ "java/lang/invoke/MethodHandle" ∧ mX10_takesPlace.1.cls ≠ "java/lang/invoke/VarHandle" ∧ (parseMethodDescriptor mX10_takesPlace.1.desc).map (fun d => d.parameters.length) = some 1) ∧ mX10_takesPlace.2.2.1 ≤ 80 := ⟨(px_in8 11 rfl rfl), (px_in1 15 rfl rfl), by decide +kernel, by decide⟩
set_option maxRecDepth 100000 in
theorem kd_X10_swells : Cond.code mX10_swells.1 mX10_swells.2.1 mX10_swells.2.2.1 mX10_swells.2.2.2 ∈ lw_gd ∧ Cond.initialized mX10_swells.1.cls ∈ lw_gd ∧ (mX10_swells.1.cls ≠ "java/lang/invoke/MethodHandle" ∧ mX10_swells.1.cls ≠ "java/lang/invoke/VarHandle" ∧ (parseMethodDescriptor mX10_swells.1.desc).map (fun d => d.parameters.length) = some 2) ∧ mX10_swells.2.2.1 ≤ 80 := ⟨(px_in8 23 rfl rfl), (px_in1 15 rfl rfl), by decide +kernel, by decide⟩
set_option maxRecDepth 100000 in
theorem kd_X10_learn : Cond.code mX10_learn.1 mX10_learn.2.1 mX10_learn.2.2.1 mX10_learn.2.2.2 ∈ lw_gd ∧ Cond.initialized mX10_learn.1.cls ∈ lw_gd ∧ (mX10_learn.1.cls ≠ "java/lang/invoke/MethodHandle" ∧ mX10_learn.1.cls ≠ "java/lang/invoke/VarHandle" ∧ (parseMethodDescriptor mX10_learn.1.desc).map (fun d => d.parameters.length) = some 2) ∧ mX10_learn.2.2.1 ≤ 80 := ⟨(px_in8 30 rfl rfl), (px_in1 15 rfl rfl), by decide +kernel, by decide⟩
set_option maxRecDepth 100000 in
theorem kd_X10_meets : Cond.code mX10_meets.1 mX10_meets.2.1 mX10_meets.2.2.1 mX10_meets.2.2.2 ∈ lw_gd ∧ Cond.initialized mX10_meets.1.cls ∈ lw_gd ∧ (mX10_meets.1.cls ≠ "java/lang/invoke/MethodHandle" ∧ mX10_meets.1.cls ≠ "java/lang/invoke/VarHandle" ∧ (parseMethodDescriptor mX10_meets.1.desc).map (fun d => d.parameters.length) = some 1) ∧ mX10_meets.2.2.1 ≤ 80 := ⟨(px_in8 19 rfl rfl), (px_in1 15 rfl rfl), by decide +kernel, by decide⟩
set_option maxRecDepth 100000 in
theorem kd_X10_soothes : Cond.code mX10_soothes.1 mX10_soothes.2.1 mX10_soothes.2.2.1 mX10_soothes.2.2.2 ∈ lw_gd ∧ Cond.initialized mX10_soothes.1.cls ∈ lw_gd ∧ (mX10_soothes.1.cls ≠ "java/lang/invoke/MethodHandle" ∧ mX10_soothes.1.cls ≠ "java/lang/invoke/VarHandle" ∧ (parseMethodDescriptor mX10_soothes.1.desc).map (fun d => d.parameters.length) = some 2) ∧ mX10_soothes.2.2.1 ≤ 80 := ⟨(px_in8 34 rfl rfl), (px_in1 15 rfl rfl), by decide +kernel, by decide⟩
set_option maxRecDepth 100000 in
theorem kd_X10_flaresUp : Cond.code mX10_flaresUp.1 mX10_flaresUp.2.1 mX10_flaresUp.2.2.1 mX10_flaresUp.2.2.2 ∈ lw_gd ∧ Cond.initialized mX10_flaresUp.1.cls ∈ lw_gd ∧ (mX10_flaresUp.1.cls ≠ "java/lang/invoke/MethodHandle" ∧ mX10_flaresUp.1.cls ≠ "java/lang/invoke/VarHandle" ∧ (parseMethodDescriptor mX10_flaresUp.1.desc).map (fun d => d.parameters.length) = some 0) ∧ mX10_flaresUp.2.2.1 ≤ 80 := ⟨(px_in8 41 rfl rfl), (px_in1 15 rfl rfl), by decide +kernel, by decide⟩
set_option maxRecDepth 100000 in
theorem kd_X10_goDay : Cond.code mX10_goDay.1 mX10_goDay.2.1 mX10_goDay.2.2.1 mX10_goDay.2.2.2 ∈ lw_gd ∧ Cond.initialized mX10_goDay.1.cls ∈ lw_gd ∧ (mX10_goDay.1.cls ≠ "java/lang/invoke/MethodHandle" ∧ mX10_goDay.1.cls ≠ "java/lang/invoke/VarHandle" ∧ (parseMethodDescriptor mX10_goDay.1.desc).map (fun d => d.parameters.length) = some 1) ∧ mX10_goDay.2.2.1 ≤ 80 := ⟨(px_in8 7 rfl rfl), (px_in1 15 rfl rfl), by decide +kernel, by decide⟩
set_option maxRecDepth 100000 in
theorem kd_X10_person : Cond.code mX10_person.1 mX10_person.2.1 mX10_person.2.2.1 mX10_person.2.2.2 ∈ lw_gd ∧ Cond.initialized mX10_person.1.cls ∈ lw_gd ∧ (mX10_person.1.cls ≠ "java/lang/invoke/MethodHandle" ∧ mX10_person.1.cls ≠ "java/lang/invoke/VarHandle" ∧ (parseMethodDescriptor mX10_person.1.desc).map (fun d => d.parameters.length) = some 2) ∧ mX10_person.2.2.1 ≤ 80 := ⟨(px_in7 175 rfl rfl), (px_in1 15 rfl rfl), by decide +kernel, by decide⟩
set_option maxRecDepth 100000 in
theorem kd_X10_meeting : Cond.code mX10_meeting.1 mX10_meeting.2.1 mX10_meeting.2.2.1 mX10_meeting.2.2.2 ∈ lw_gd ∧ Cond.initialized mX10_meeting.1.cls ∈ lw_gd ∧ (mX10_meeting.1.cls ≠ "java/lang/invoke/MethodHandle" ∧ mX10_meeting.1.cls ≠ "java/lang/invoke/VarHandle" ∧ (parseMethodDescriptor mX10_meeting.1.desc).map (fun d => d.parameters.length) = some 2) ∧ mX10_meeting.2.2.1 ≤ 80 := ⟨(px_in7 197 rfl rfl), (px_in1 15 rfl rfl), by decide +kernel, by decide⟩
set_option maxRecDepth 100000 in
theorem kd_X10_brother : Cond.code mX10_brother.1 mX10_brother.2.1 mX10_brother.2.2.1 mX10_brother.2.2.2 ∈ lw_gd ∧ Cond.initialized mX10_brother.1.cls ∈ lw_gd ∧ (mX10_brother.1.cls ≠ "java/lang/invoke/MethodHandle" ∧ mX10_brother.1.cls ≠ "java/lang/invoke/VarHandle" ∧ (parseMethodDescriptor mX10_brother.1.desc).map (fun d => d.parameters.length) = some 2) ∧ mX10_brother.2.2.1 ≤ 80 := ⟨(px_in7 205 rfl rfl), (px_in1 15 rfl rfl), by decide +kernel, by decide⟩
set_option maxRecDepth 100000 in
theorem kd_X10_round : Cond.code mX10_round.1 mX10_round.2.1 mX10_round.2.2.1 mX10_round.2.2.2 ∈ lw_gd ∧ Cond.initialized mX10_round.1.cls ∈ lw_gd ∧ (mX10_round.1.cls ≠ "java/lang/invoke/MethodHandle" ∧ mX10_round.1.cls ≠ "java/lang/invoke/VarHandle" ∧ (parseMethodDescriptor mX10_round.1.desc).map (fun d => d.parameters.length) = some 2) ∧ mX10_round.2.2.1 ≤ 80 := ⟨(px_in7 213 rfl rfl), (px_in1 15 rfl rfl), by decide +kernel, by decide⟩
set_option maxRecDepth 100000 in
theorem kd_X10_touch : Cond.code mX10_touch.1 mX10_touch.2.1 mX10_touch.2.2.1 mX10_touch.2.2.2 ∈ lw_gd ∧ Cond.initialized mX10_touch.1.cls ∈ lw_gd ∧ (mX10_touch.1.cls ≠ "java/lang/invoke/MethodHandle" ∧ mX10_touch.1.cls ≠ "java/lang/invoke/VarHandle" ∧ (parseMethodDescriptor mX10_touch.1.desc).map (fun d => d.parameters.length) = some 2) ∧ mX10_touch.2.2.1 ≤ 80 := ⟨(px_in7 217 rfl rfl), (px_in1 15 rfl rfl), by decide +kernel, by decide⟩
set_option maxRecDepth 100000 in
theorem kd_X10_abed : Cond.code mX10_abed.1 mX10_abed.2.1 mX10_abed.2.2.1 mX10_abed.2.2.2 ∈ lw_gd ∧ Cond.initialized mX10_abed.1.cls ∈ lw_gd ∧ (mX10_abed.1.cls ≠ "java/lang/invoke/MethodHandle" ∧ mX10_abed.1.cls ≠ "java/lang/invoke/VarHandle" ∧ (parseMethodDescriptor mX10_abed.1.desc).map (fun d => d.parameters.length) = some 0) ∧ mX10_abed.2.2.1 ≤ 80 := ⟨(px_in7 231 rfl rfl), (px_in1 15 rfl rfl), by decide +kernel, by decide⟩
set_option maxRecDepth 100000 in
theorem kd_X10_act : Cond.code mX10_act.1 mX10_act.2.1 mX10_act.2.2.1 mX10_act.2.2.2 ∈ lw_gd ∧ Cond.initialized mX10_act.1.cls ∈ lw_gd ∧ (mX10_act.1.cls ≠ "java/lang/invoke/MethodHandle" ∧ mX10_act.1.cls ≠ "java/lang/invoke/VarHandle" ∧ (parseMethodDescriptor mX10_act.1.desc).map (fun d => d.parameters.length) = some 0) ∧ mX10_act.2.2.1 ≤ 80 := ⟨(px_in8 3 rfl rfl), (px_in1 15 rfl rfl), by decide +kernel, by decide⟩
set_option maxRecDepth 100000 in
theorem kd_X10_exchange : Cond.code mX10_exchange.1 mX10_exchange.2.1 mX10_exchange.2.2.1 mX10_exchange.2.2.2 ∈ lw_gd ∧ Cond.initialized mX10_exchange.1.cls ∈ lw_gd ∧ (mX10_exchange.1.cls ≠ "java/lang/invoke/MethodHandle" ∧ mX10_exchange.1.cls ≠ "java/lang/invoke/VarHandle" ∧ (parseMethodDescriptor mX10_exchange.1.desc).map (fun d => d.parameters.length) = some 1) ∧ mX10_exchange.2.2.1 ≤ 80 := ⟨(px_in8 73 rfl rfl), (px_in1 15 rfl rfl), by decide +kernel, by decide⟩
set_option maxRecDepth 100000 in
theorem kd_X10_day : Cond.code mX10_day.1 mX10_day.2.1 mX10_day.2.2.1 mX10_day.2.2.2 ∈ lw_gd ∧ Cond.initialized mX10_day.1.cls ∈ lw_gd ∧ (mX10_day.1.cls ≠ "java/lang/invoke/MethodHandle" ∧ mX10_day.1.cls ≠ "java/lang/invoke/VarHandle" ∧ (parseMethodDescriptor mX10_day.1.desc).map (fun d => d.parameters.length) = some 0) ∧ mX10_day.2.2.1 ≤ 80 := ⟨(px_in7 239 rfl rfl), (px_in1 15 rfl rfl), by decide +kernel, by decide⟩
set_option maxRecDepth 100000 in
theorem kd_X10_lesson : Cond.code mX10_lesson.1 mX10_lesson.2.1 mX10_lesson.2.2.1 mX10_lesson.2.2.2 ∈ lw_gd ∧ Cond.initialized mX10_lesson.1.cls ∈ lw_gd ∧ (mX10_lesson.1.cls ≠ "java/lang/invoke/MethodHandle" ∧ mX10_lesson.1.cls ≠ "java/lang/invoke/VarHandle" ∧ (parseMethodDescriptor mX10_lesson.1.desc).map (fun d => d.parameters.length) = some 1) ∧ mX10_lesson.2.2.1 ≤ 80 := ⟨(px_in8 45 rfl rfl), (px_in1 15 rfl rfl), by decide +kernel, by decide⟩
set_option maxRecDepth 100000 in
theorem kd_X10_turnBan : Cond.code mX10_turnBan.1 mX10_turnBan.2.1 mX10_turnBan.2.2.1 mX10_turnBan.2.2.2 ∈ lw_gd ∧ Cond.initialized mX10_turnBan.1.cls ∈ lw_gd ∧ (mX10_turnBan.1.cls ≠ "java/lang/invoke/MethodHandle" ∧ mX10_turnBan.1.cls ≠ "java/lang/invoke/VarHandle" ∧ (parseMethodDescriptor mX10_turnBan.1.desc).map (fun d => d.parameters.length) = some 1) ∧ mX10_turnBan.2.2.1 ≤ 80 := ⟨(px_in8 57 rfl rfl), (px_in1 15 rfl rfl), by decide +kernel, by decide⟩
set_option maxRecDepth 100000 in
theorem kd_X10_isBannedNow : Cond.code mX10_isBannedNow.1 mX10_isBannedNow.2.1 mX10_isBannedNow.2.2.1 mX10_isBannedNow.2.2.2 ∈ lw_gd ∧ Cond.initialized mX10_isBannedNow.1.cls ∈ lw_gd ∧ (mX10_isBannedNow.1.cls ≠ "java/lang/invoke/MethodHandle" ∧ mX10_isBannedNow.1.cls ≠ "java/lang/invoke/VarHandle" ∧ (parseMethodDescriptor mX10_isBannedNow.1.desc).map (fun d => d.parameters.length) = some 1) ∧ mX10_isBannedNow.2.2.1 ≤ 80 := ⟨(px_in8 53 rfl rfl), (px_in1 15 rfl rfl), by decide +kernel, by decide⟩
set_option maxRecDepth 100000 in
theorem kd_X10_forbid : Cond.code mX10_forbid.1 mX10_forbid.2.1 mX10_forbid.2.2.1 mX10_forbid.2.2.2 ∈ lw_gd ∧ Cond.initialized mX10_forbid.1.cls ∈ lw_gd ∧ (mX10_forbid.1.cls ≠ "java/lang/invoke/MethodHandle" ∧ mX10_forbid.1.cls ≠ "java/lang/invoke/VarHandle" ∧ (parseMethodDescriptor mX10_forbid.1.desc).map (fun d => d.parameters.length) = some 1) ∧ mX10_forbid.2.2.1 ≤ 80 := ⟨(px_in8 49 rfl rfl), (px_in1 15 rfl rfl), by decide +kernel, by decide⟩
set_option maxRecDepth 100000 in
theorem kd_X10_allow : Cond.code mX10_allow.1 mX10_allow.2.1 mX10_allow.2.2.1 mX10_allow.2.2.2 ∈ lw_gd ∧ Cond.initialized mX10_allow.1.cls ∈ lw_gd ∧ (mX10_allow.1.cls ≠ "java/lang/invoke/MethodHandle" ∧ mX10_allow.1.cls ≠ "java/lang/invoke/VarHandle" ∧ (parseMethodDescriptor mX10_allow.1.desc).map (fun d => d.parameters.length) = some 1) ∧ mX10_allow.2.2.1 ≤ 80 := ⟨(px_in8 61 rfl rfl), (px_in1 15 rfl rfl), by decide +kernel, by decide⟩
set_option maxRecDepth 100000 in
theorem kd_X10_call : Cond.code mX10_call.1 mX10_call.2.1 mX10_call.2.2.1 mX10_call.2.2.2 ∈ lw_gd ∧ Cond.initialized mX10_call.1.cls ∈ lw_gd ∧ (mX10_call.1.cls ≠ "java/lang/invoke/MethodHandle" ∧ mX10_call.1.cls ≠ "java/lang/invoke/VarHandle" ∧ (parseMethodDescriptor mX10_call.1.desc).map (fun d => d.parameters.length) = some 2) ∧ mX10_call.2.2.1 ≤ 80 := ⟨(px_in8 65 rfl rfl), (px_in1 15 rfl rfl), by decide +kernel, by decide⟩
set_option maxRecDepth 100000 in
theorem kd_X10_undo : Cond.code mX10_undo.1 mX10_undo.2.1 mX10_undo.2.2.1 mX10_undo.2.2.2 ∈ lw_gd ∧ Cond.initialized mX10_undo.1.cls ∈ lw_gd ∧ (mX10_undo.1.cls ≠ "java/lang/invoke/MethodHandle" ∧ mX10_undo.1.cls ≠ "java/lang/invoke/VarHandle" ∧ (parseMethodDescriptor mX10_undo.1.desc).map (fun d => d.parameters.length) = some 0) ∧ mX10_undo.2.2.1 ≤ 80 := ⟨(px_in8 69 rfl rfl), (px_in1 15 rfl rfl), by decide +kernel, by decide⟩
set_option maxRecDepth 100000 in
theorem kd_X10_redo : Cond.code mX10_redo.1 mX10_redo.2.1 mX10_redo.2.2.1 mX10_redo.2.2.2 ∈ lw_gd ∧ Cond.initialized mX10_redo.1.cls ∈ lw_gd ∧ (mX10_redo.1.cls ≠ "java/lang/invoke/MethodHandle" ∧ mX10_redo.1.cls ≠ "java/lang/invoke/VarHandle" ∧ (parseMethodDescriptor mX10_redo.1.desc).map (fun d => d.parameters.length) = some 0) ∧ mX10_redo.2.2.1 ≤ 80 := ⟨(px_in8 77 rfl rfl), (px_in1 15 rfl rfl), by decide +kernel, by decide⟩
set_option maxRecDepth 100000 in
theorem kd_X10_will : Cond.code mX10_will.1 mX10_will.2.1 mX10_will.2.2.1 mX10_will.2.2.2 ∈ lw_gd ∧ Cond.initialized mX10_will.1.cls ∈ lw_gd ∧ (mX10_will.1.cls ≠ "java/lang/invoke/MethodHandle" ∧ mX10_will.1.cls ≠ "java/lang/invoke/VarHandle" ∧ (parseMethodDescriptor mX10_will.1.desc).map (fun d => d.parameters.length) = some 3) ∧ mX10_will.2.2.1 ≤ 80 := ⟨(px_in8 81 rfl rfl), (px_in1 15 rfl rfl), by decide +kernel, by decide⟩
set_option maxRecDepth 100000 in
theorem kd_X10_firm : Cond.code mX10_firm.1 mX10_firm.2.1 mX10_firm.2.2.1 mX10_firm.2.2.2 ∈ lw_gd ∧ Cond.initialized mX10_firm.1.cls ∈ lw_gd ∧ (mX10_firm.1.cls ≠ "java/lang/invoke/MethodHandle" ∧ mX10_firm.1.cls ≠ "java/lang/invoke/VarHandle" ∧ (parseMethodDescriptor mX10_firm.1.desc).map (fun d => d.parameters.length) = some 2) ∧ mX10_firm.2.2.1 ≤ 80 := ⟨(px_in8 85 rfl rfl), (px_in1 15 rfl rfl), by decide +kernel, by decide⟩
set_option maxRecDepth 100000 in
theorem kd_X10_hurtBehind : Cond.code mX10_hurtBehind.1 mX10_hurtBehind.2.1 mX10_hurtBehind.2.2.1 mX10_hurtBehind.2.2.2 ∈ lw_gd ∧ Cond.initialized mX10_hurtBehind.1.cls ∈ lw_gd ∧ (mX10_hurtBehind.1.cls ≠ "java/lang/invoke/MethodHandle" ∧ mX10_hurtBehind.1.cls ≠ "java/lang/invoke/VarHandle" ∧ (parseMethodDescriptor mX10_hurtBehind.1.desc).map (fun d => d.parameters.length) = some 1) ∧ mX10_hurtBehind.2.2.1 ≤ 80 := ⟨(px_in8 93 rfl rfl), (px_in1 15 rfl rfl), by decide +kernel, by decide⟩
set_option maxRecDepth 100000 in
theorem kd_X10_hurt : Cond.code mX10_hurt.1 mX10_hurt.2.1 mX10_hurt.2.2.1 mX10_hurt.2.2.2 ∈ lw_gd ∧ Cond.initialized mX10_hurt.1.cls ∈ lw_gd ∧ (mX10_hurt.1.cls ≠ "java/lang/invoke/MethodHandle" ∧ mX10_hurt.1.cls ≠ "java/lang/invoke/VarHandle" ∧ (parseMethodDescriptor mX10_hurt.1.desc).map (fun d => d.parameters.length) = some 1) ∧ mX10_hurt.2.2.1 ≤ 80 := ⟨(px_in8 89 rfl rfl), (px_in1 15 rfl rfl), by decide +kernel, by decide⟩
set_option maxRecDepth 100000 in
theorem kd_X10_felled : Cond.code mX10_felled.1 mX10_felled.2.1 mX10_felled.2.2.1 mX10_felled.2.2.2 ∈ lw_gd ∧ Cond.initialized mX10_felled.1.cls ∈ lw_gd ∧ (mX10_felled.1.cls ≠ "java/lang/invoke/MethodHandle" ∧ mX10_felled.1.cls ≠ "java/lang/invoke/VarHandle" ∧ (parseMethodDescriptor mX10_felled.1.desc).map (fun d => d.parameters.length) = some 1) ∧ mX10_felled.2.2.1 ≤ 80 := ⟨(px_in8 97 rfl rfl), (px_in1 15 rfl rfl), by decide +kernel, by decide⟩
set_option maxRecDepth 100000 in
theorem kd_X10_isPeace : Cond.code mX10_isPeace.1 mX10_isPeace.2.1 mX10_isPeace.2.2.1 mX10_isPeace.2.2.2 ∈ lw_gd ∧ Cond.initialized mX10_isPeace.1.cls ∈ lw_gd ∧ (mX10_isPeace.1.cls ≠ "java/lang/invoke/MethodHandle" ∧ mX10_isPeace.1.cls ≠ "java/lang/invoke/VarHandle" ∧ (parseMethodDescriptor mX10_isPeace.1.desc).map (fun d => d.parameters.length) = some 2) ∧ mX10_isPeace.2.2.1 ≤ 80 := ⟨(px_in8 108 rfl rfl), (px_in1 15 rfl rfl), by decide +kernel, by decide⟩
set_option maxRecDepth 100000 in
theorem kd_X10_peace : Cond.code mX10_peace.1 mX10_peace.2.1 mX10_peace.2.2.1 mX10_peace.2.2.2 ∈ lw_gd ∧ Cond.initialized mX10_peace.1.cls ∈ lw_gd ∧ (mX10_peace.1.cls ≠ "java/lang/invoke/MethodHandle" ∧ mX10_peace.1.cls ≠ "java/lang/invoke/VarHandle" ∧ (parseMethodDescriptor mX10_peace.1.desc).map (fun d => d.parameters.length) = some 2) ∧ mX10_peace.2.2.1 ≤ 80 := ⟨(px_in8 101 rfl rfl), (px_in1 15 rfl rfl), by decide +kernel, by decide⟩
set_option maxRecDepth 100000 in
theorem kd_X10_nextRow : Cond.code mX10_nextRow.1 mX10_nextRow.2.1 mX10_nextRow.2.2.1 mX10_nextRow.2.2.2 ∈ lw_gd ∧ Cond.initialized mX10_nextRow.1.cls ∈ lw_gd ∧ (mX10_nextRow.1.cls ≠ "java/lang/invoke/MethodHandle" ∧ mX10_nextRow.1.cls ≠ "java/lang/invoke/VarHandle" ∧ (parseMethodDescriptor mX10_nextRow.1.desc).map (fun d => d.parameters.length) = some 0) ∧ mX10_nextRow.2.2.1 ≤ 80 := ⟨(px_in8 121 rfl rfl), (px_in1 15 rfl rfl), by decide +kernel, by decide⟩
set_option maxRecDepth 100000 in
theorem kd_X10_swap : Cond.code mX10_swap.1 mX10_swap.2.1 mX10_swap.2.2.1 mX10_swap.2.2.2 ∈ lw_gd ∧ Cond.initialized mX10_swap.1.cls ∈ lw_gd ∧ (mX10_swap.1.cls ≠ "java/lang/invoke/MethodHandle" ∧ mX10_swap.1.cls ≠ "java/lang/invoke/VarHandle" ∧ (parseMethodDescriptor mX10_swap.1.desc).map (fun d => d.parameters.length) = some 2) ∧ mX10_swap.2.2.1 ≤ 80 := ⟨(px_in8 125 rfl rfl), (px_in1 15 rfl rfl), by decide +kernel, by decide⟩
set_option maxRecDepth 100000 in
theorem kd_X10_layRow : Cond.code mX10_layRow.1 mX10_layRow.2.1 mX10_layRow.2.2.1 mX10_layRow.2.2.2 ∈ lw_gd ∧ Cond.initialized mX10_layRow.1.cls ∈ lw_gd ∧ (mX10_layRow.1.cls ≠ "java/lang/invoke/MethodHandle" ∧ mX10_layRow.1.cls ≠ "java/lang/invoke/VarHandle" ∧ (parseMethodDescriptor mX10_layRow.1.desc).map (fun d => d.parameters.length) = some 1) ∧ mX10_layRow.2.2.1 ≤ 80 := ⟨(px_in8 116 rfl rfl), (px_in1 15 rfl rfl), by decide +kernel, by decide⟩
set_option maxRecDepth 100000 in
theorem kd_X10_rounds : Cond.code mX10_rounds.1 mX10_rounds.2.1 mX10_rounds.2.2.1 mX10_rounds.2.2.2 ∈ lw_gd ∧ Cond.initialized mX10_rounds.1.cls ∈ lw_gd ∧ (mX10_rounds.1.cls ≠ "java/lang/invoke/MethodHandle" ∧ mX10_rounds.1.cls ≠ "java/lang/invoke/VarHandle" ∧ (parseMethodDescriptor mX10_rounds.1.desc).map (fun d => d.parameters.length) = some 2) ∧ mX10_rounds.2.2.1 ≤ 80 := ⟨(px_in8 112 rfl rfl), (px_in1 15 rfl rfl), by decide +kernel, by decide⟩
set_option maxRecDepth 100000 in
theorem kd_X10_grip : Cond.code mX10_grip.1 mX10_grip.2.1 mX10_grip.2.2.1 mX10_grip.2.2.2 ∈ lw_gd ∧ Cond.initialized mX10_grip.1.cls ∈ lw_gd ∧ (mX10_grip.1.cls ≠ "java/lang/invoke/MethodHandle" ∧ mX10_grip.1.cls ≠ "java/lang/invoke/VarHandle" ∧ (parseMethodDescriptor mX10_grip.1.desc).map (fun d => d.parameters.length) = some 2) ∧ mX10_grip.2.2.1 ≤ 80 := ⟨(px_in8 129 rfl rfl), (px_in1 15 rfl rfl), by decide +kernel, by decide⟩
set_option maxRecDepth 100000 in
theorem kd_X10_pupil : Cond.code mX10_pupil.1 mX10_pupil.2.1 mX10_pupil.2.2.1 mX10_pupil.2.2.2 ∈ lw_gd ∧ Cond.initialized mX10_pupil.1.cls ∈ lw_gd ∧ (mX10_pupil.1.cls ≠ "java/lang/invoke/MethodHandle" ∧ mX10_pupil.1.cls ≠ "java/lang/invoke/VarHandle" ∧ (parseMethodDescriptor mX10_pupil.1.desc).map (fun d => d.parameters.length) = some 2) ∧ mX10_pupil.2.2.1 ≤ 80 := ⟨(px_in8 133 rfl rfl), (px_in1 15 rfl rfl), by decide +kernel, by decide⟩
set_option maxRecDepth 100000 in
theorem kd_X10_friendsOf : Cond.code mX10_friendsOf.1 mX10_friendsOf.2.1 mX10_friendsOf.2.2.1 mX10_friendsOf.2.2.2 ∈ lw_gd ∧ Cond.initialized mX10_friendsOf.1.cls ∈ lw_gd ∧ (mX10_friendsOf.1.cls ≠ "java/lang/invoke/MethodHandle" ∧ mX10_friendsOf.1.cls ≠ "java/lang/invoke/VarHandle" ∧ (parseMethodDescriptor mX10_friendsOf.1.desc).map (fun d => d.parameters.length) = some 1) ∧ mX10_friendsOf.2.2.1 ≤ 80 := ⟨(px_in8 141 rfl rfl), (px_in1 15 rfl rfl), by decide +kernel, by decide⟩
set_option maxRecDepth 100000 in
theorem kd_X10_friends : Cond.code mX10_friends.1 mX10_friends.2.1 mX10_friends.2.2.1 mX10_friends.2.2.2 ∈ lw_gd ∧ Cond.initialized mX10_friends.1.cls ∈ lw_gd ∧ (mX10_friends.1.cls ≠ "java/lang/invoke/MethodHandle" ∧ mX10_friends.1.cls ≠ "java/lang/invoke/VarHandle" ∧ (parseMethodDescriptor mX10_friends.1.desc).map (fun d => d.parameters.length) = some 1) ∧ mX10_friends.2.2.1 ≤ 80 := ⟨(px_in8 137 rfl rfl), (px_in1 15 rfl rfl), by decide +kernel, by decide⟩
set_option maxRecDepth 100000 in
theorem kd_X10_power : Cond.code mX10_power.1 mX10_power.2.1 mX10_power.2.2.1 mX10_power.2.2.2 ∈ lw_gd ∧ Cond.initialized mX10_power.1.cls ∈ lw_gd ∧ (mX10_power.1.cls ≠ "java/lang/invoke/MethodHandle" ∧ mX10_power.1.cls ≠ "java/lang/invoke/VarHandle" ∧ (parseMethodDescriptor mX10_power.1.desc).map (fun d => d.parameters.length) = some 2) ∧ mX10_power.2.2.1 ≤ 80 := ⟨(px_in8 152 rfl rfl), (px_in1 15 rfl rfl), by decide +kernel, by decide⟩
set_option maxRecDepth 100000 in
theorem kd_X10_layGroups : Cond.code mX10_layGroups.1 mX10_layGroups.2.1 mX10_layGroups.2.2.1 mX10_layGroups.2.2.2 ∈ lw_gd ∧ Cond.initialized mX10_layGroups.1.cls ∈ lw_gd ∧ (mX10_layGroups.1.cls ≠ "java/lang/invoke/MethodHandle" ∧ mX10_layGroups.1.cls ≠ "java/lang/invoke/VarHandle" ∧ (parseMethodDescriptor mX10_layGroups.1.desc).map (fun d => d.parameters.length) = some 2) ∧ mX10_layGroups.2.2.1 ≤ 80 := ⟨(px_in8 156 rfl rfl), (px_in1 15 rfl rfl), by decide +kernel, by decide⟩
set_option maxRecDepth 100000 in
theorem kd_X10_findGroups : Cond.code mX10_findGroups.1 mX10_findGroups.2.1 mX10_findGroups.2.2.1 mX10_findGroups.2.2.2 ∈ lw_gd ∧ Cond.initialized mX10_findGroups.1.cls ∈ lw_gd ∧ (mX10_findGroups.1.cls ≠ "java/lang/invoke/MethodHandle" ∧ mX10_findGroups.1.cls ≠ "java/lang/invoke/VarHandle" ∧ (parseMethodDescriptor mX10_findGroups.1.desc).map (fun d => d.parameters.length) = some 1) ∧ mX10_findGroups.2.2.1 ≤ 80 := ⟨(px_in8 149 rfl rfl), (px_in1 15 rfl rfl), by decide +kernel, by decide⟩
set_option maxRecDepth 100000 in
theorem kd_X10_evenings : Cond.code mX10_evenings.1 mX10_evenings.2.1 mX10_evenings.2.2.1 mX10_evenings.2.2.2 ∈ lw_gd ∧ Cond.initialized mX10_evenings.1.cls ∈ lw_gd ∧ (mX10_evenings.1.cls ≠ "java/lang/invoke/MethodHandle" ∧ mX10_evenings.1.cls ≠ "java/lang/invoke/VarHandle" ∧ (parseMethodDescriptor mX10_evenings.1.desc).map (fun d => d.parameters.length) = some 0) ∧ mX10_evenings.2.2.1 ≤ 80 := ⟨(px_in8 145 rfl rfl), (px_in1 15 rfl rfl), by decide +kernel, by decide⟩
set_option maxRecDepth 100000 in
theorem kd_X10_rumour : Cond.code mX10_rumour.1 mX10_rumour.2.1 mX10_rumour.2.2.1 mX10_rumour.2.2.2 ∈ lw_gd ∧ Cond.initialized mX10_rumour.1.cls ∈ lw_gd ∧ (mX10_rumour.1.cls ≠ "java/lang/invoke/MethodHandle" ∧ mX10_rumour.1.cls ≠ "java/lang/invoke/VarHandle" ∧ (parseMethodDescriptor mX10_rumour.1.desc).map (fun d => d.parameters.length) = some 2) ∧ mX10_rumour.2.2.1 ≤ 80 := ⟨(px_in8 160 rfl rfl), (px_in1 15 rfl rfl), by decide +kernel, by decide⟩
set_option maxRecDepth 100000 in
theorem kd_X10_manners : Cond.code mX10_manners.1 mX10_manners.2.1 mX10_manners.2.2.1 mX10_manners.2.2.2 ∈ lw_gd ∧ Cond.initialized mX10_manners.1.cls ∈ lw_gd ∧ (mX10_manners.1.cls ≠ "java/lang/invoke/MethodHandle" ∧ mX10_manners.1.cls ≠ "java/lang/invoke/VarHandle" ∧ (parseMethodDescriptor mX10_manners.1.desc).map (fun d => d.parameters.length) = some 0) ∧ mX10_manners.2.2.1 ≤ 80 := ⟨(px_in8 164 rfl rfl), (px_in1 15 rfl rfl), by decide +kernel, by decide⟩
set_option maxRecDepth 100000 in
theorem kd_X10_duel : Cond.code mX10_duel.1 mX10_duel.2.1 mX10_duel.2.2.1 mX10_duel.2.2.2 ∈ lw_gd ∧ Cond.initialized mX10_duel.1.cls ∈ lw_gd ∧ (mX10_duel.1.cls ≠ "java/lang/invoke/MethodHandle" ∧ mX10_duel.1.cls ≠ "java/lang/invoke/VarHandle" ∧ (parseMethodDescriptor mX10_duel.1.desc).map (fun d => d.parameters.length) = some 1) ∧ mX10_duel.2.2.1 ≤ 80 := ⟨(px_in8 168 rfl rfl), (px_in1 15 rfl rfl), by decide +kernel, by decide⟩
set_option maxRecDepth 100000 in
theorem kd_X10_meetingsOf : Cond.code mX10_meetingsOf.1 mX10_meetingsOf.2.1 mX10_meetingsOf.2.2.1 mX10_meetingsOf.2.2.2 ∈ lw_gd ∧ Cond.initialized mX10_meetingsOf.1.cls ∈ lw_gd ∧ (mX10_meetingsOf.1.cls ≠ "java/lang/invoke/MethodHandle" ∧ mX10_meetingsOf.1.cls ≠ "java/lang/invoke/VarHandle" ∧ (parseMethodDescriptor mX10_meetingsOf.1.desc).map (fun d => d.parameters.length) = some 1) ∧ mX10_meetingsOf.2.2.1 ≤ 80 := ⟨(px_in8 176 rfl rfl), (px_in1 15 rfl rfl), by decide +kernel, by decide⟩
set_option maxRecDepth 100000 in
theorem kd_X10_scourge : Cond.code mX10_scourge.1 mX10_scourge.2.1 mX10_scourge.2.2.1 mX10_scourge.2.2.2 ∈ lw_gd ∧ Cond.initialized mX10_scourge.1.cls ∈ lw_gd ∧ (mX10_scourge.1.cls ≠ "java/lang/invoke/MethodHandle" ∧ mX10_scourge.1.cls ≠ "java/lang/invoke/VarHandle" ∧ (parseMethodDescriptor mX10_scourge.1.desc).map (fun d => d.parameters.length) = some 1) ∧ mX10_scourge.2.2.1 ≤ 80 := ⟨(px_in8 172 rfl rfl), (px_in1 15 rfl rfl), by decide +kernel, by decide⟩
set_option maxRecDepth 100000 in
theorem kd_X10_relief : Cond.code mX10_relief.1 mX10_relief.2.1 mX10_relief.2.2.1 mX10_relief.2.2.2 ∈ lw_gd ∧ Cond.initialized mX10_relief.1.cls ∈ lw_gd ∧ (mX10_relief.1.cls ≠ "java/lang/invoke/MethodHandle" ∧ mX10_relief.1.cls ≠ "java/lang/invoke/VarHandle" ∧ (parseMethodDescriptor mX10_relief.1.desc).map (fun d => d.parameters.length) = some 2) ∧ mX10_relief.2.2.1 ≤ 80 := ⟨(px_in8 180 rfl rfl), (px_in1 15 rfl rfl), by decide +kernel, by decide⟩
set_option maxRecDepth 100000 in
theorem kd_X10_mostAt : Cond.code mX10_mostAt.1 mX10_mostAt.2.1 mX10_mostAt.2.2.1 mX10_mostAt.2.2.2 ∈ lw_gd ∧ Cond.initialized mX10_mostAt.1.cls ∈ lw_gd ∧ (mX10_mostAt.1.cls ≠ "java/lang/invoke/MethodHandle" ∧ mX10_mostAt.1.cls ≠ "java/lang/invoke/VarHandle" ∧ (parseMethodDescriptor mX10_mostAt.1.desc).map (fun d => d.parameters.length) = some 1) ∧ mX10_mostAt.2.2.1 ≤ 80 := ⟨(px_in8 188 rfl rfl), (px_in1 15 rfl rfl), by decide +kernel, by decide⟩
set_option maxRecDepth 100000 in
theorem kd_X10_sorest : Cond.code mX10_sorest.1 mX10_sorest.2.1 mX10_sorest.2.2.1 mX10_sorest.2.2.2 ∈ lw_gd ∧ Cond.initialized mX10_sorest.1.cls ∈ lw_gd ∧ (mX10_sorest.1.cls ≠ "java/lang/invoke/MethodHandle" ∧ mX10_sorest.1.cls ≠ "java/lang/invoke/VarHandle" ∧ (parseMethodDescriptor mX10_sorest.1.desc).map (fun d => d.parameters.length) = some 0) ∧ mX10_sorest.2.2.1 ≤ 80 := ⟨(px_in8 184 rfl rfl), (px_in1 15 rfl rfl), by decide +kernel, by decide⟩
set_option maxRecDepth 100000 in
theorem kd_X10_firmest : Cond.code mX10_firmest.1 mX10_firmest.2.1 mX10_firmest.2.2.1 mX10_firmest.2.2.2 ∈ lw_gd ∧ Cond.initialized mX10_firmest.1.cls ∈ lw_gd ∧ (mX10_firmest.1.cls ≠ "java/lang/invoke/MethodHandle" ∧ mX10_firmest.1.cls ≠ "java/lang/invoke/VarHandle" ∧ (parseMethodDescriptor mX10_firmest.1.desc).map (fun d => d.parameters.length) = some 0) ∧ mX10_firmest.2.2.1 ≤ 80 := ⟨(px_in8 192 rfl rfl), (px_in1 15 rfl rfl), by decide +kernel, by decide⟩
set_option maxRecDepth 100000 in
theorem kd_X10_due : Cond.code mX10_due.1 mX10_due.2.1 mX10_due.2.2.1 mX10_due.2.2.2 ∈ lw_gd ∧ Cond.initialized mX10_due.1.cls ∈ lw_gd ∧ (mX10_due.1.cls ≠ "java/lang/invoke/MethodHandle" ∧ mX10_due.1.cls ≠ "java/lang/invoke/VarHandle" ∧ (parseMethodDescriptor mX10_due.1.desc).map (fun d => d.parameters.length) = some 0) ∧ mX10_due.2.2.1 ≤ 80 := ⟨(px_in8 196 rfl rfl), (px_in1 15 rfl rfl), by decide +kernel, by decide⟩
set_option maxRecDepth 100000 in
theorem kd_X10_uncared : Cond.code mX10_uncared.1 mX10_uncared.2.1 mX10_uncared.2.2.1 mX10_uncared.2.2.2 ∈ lw_gd ∧ Cond.initialized mX10_uncared.1.cls ∈ lw_gd ∧ (mX10_uncared.1.cls ≠ "java/lang/invoke/MethodHandle" ∧ mX10_uncared.1.cls ≠ "java/lang/invoke/VarHandle" ∧ (parseMethodDescriptor mX10_uncared.1.desc).map (fun d => d.parameters.length) = some 0) ∧ mX10_uncared.2.2.1 ≤ 80 := ⟨(px_in8 200 rfl rfl), (px_in1 15 rfl rfl), by decide +kernel, by decide⟩
set_option maxRecDepth 100000 in
theorem kd_X10_law : Cond.code mX10_law.1 mX10_law.2.1 mX10_law.2.2.1 mX10_law.2.2.2 ∈ lw_gd ∧ Cond.initialized mX10_law.1.cls ∈ lw_gd ∧ (mX10_law.1.cls ≠ "java/lang/invoke/MethodHandle" ∧ mX10_law.1.cls ≠ "java/lang/invoke/VarHandle" ∧ (parseMethodDescriptor mX10_law.1.desc).map (fun d => d.parameters.length) = some 1) ∧ mX10_law.2.2.1 ≤ 80 := ⟨(px_in8 204 rfl rfl), (px_in1 15 rfl rfl), by decide +kernel, by decide⟩
set_option maxRecDepth 100000 in
theorem kd_X10_next : Cond.code mX10_next.1 mX10_next.2.1 mX10_next.2.2.1 mX10_next.2.2.2 ∈ lw_gd ∧ Cond.initialized mX10_next.1.cls ∈ lw_gd ∧ (mX10_next.1.cls ≠ "java/lang/invoke/MethodHandle" ∧ mX10_next.1.cls ≠ "java/lang/invoke/VarHandle" ∧ (parseMethodDescriptor mX10_next.1.desc).map (fun d => d.parameters.length) = some 1) ∧ mX10_next.2.2.1 ≤ 80 := ⟨(px_in8 208 rfl rfl), (px_in1 15 rfl rfl), by decide +kernel, by decide⟩
set_option maxRecDepth 100000 in
theorem kd_X10_divisor : Cond.code mX10_divisor.1 mX10_divisor.2.1 mX10_divisor.2.2.1 mX10_divisor.2.2.2 ∈ lw_gd ∧ Cond.initialized mX10_divisor.1.cls ∈ lw_gd ∧ (mX10_divisor.1.cls ≠ "java/lang/invoke/MethodHandle" ∧ mX10_divisor.1.cls ≠ "java/lang/invoke/VarHandle" ∧ (parseMethodDescriptor mX10_divisor.1.desc).map (fun d => d.parameters.length) = some 2) ∧ mX10_divisor.2.2.1 ≤ 80 := ⟨(px_in8 215 rfl rfl), (px_in1 15 rfl rfl), by decide +kernel, by decide⟩
set_option maxRecDepth 100000 in
theorem kd_X10_odds : Cond.code mX10_odds.1 mX10_odds.2.1 mX10_odds.2.2.1 mX10_odds.2.2.2 ∈ lw_gd ∧ Cond.initialized mX10_odds.1.cls ∈ lw_gd ∧ (mX10_odds.1.cls ≠ "java/lang/invoke/MethodHandle" ∧ mX10_odds.1.cls ≠ "java/lang/invoke/VarHandle" ∧ (parseMethodDescriptor mX10_odds.1.desc).map (fun d => d.parameters.length) = some 2) ∧ mX10_odds.2.2.1 ≤ 80 := ⟨(px_in8 212 rfl rfl), (px_in1 15 rfl rfl), by decide +kernel, by decide⟩
set_option maxRecDepth 100000 in
theorem kd_X10_lies : Cond.code mX10_lies.1 mX10_lies.2.1 mX10_lies.2.2.1 mX10_lies.2.2.2 ∈ lw_gd ∧ Cond.initialized mX10_lies.1.cls ∈ lw_gd ∧ (mX10_lies.1.cls ≠ "java/lang/invoke/MethodHandle" ∧ mX10_lies.1.cls ≠ "java/lang/invoke/VarHandle" ∧ (parseMethodDescriptor mX10_lies.1.desc).map (fun d => d.parameters.length) = some 1) ∧ mX10_lies.2.2.1 ≤ 80 := ⟨(px_in8 219 rfl rfl), (px_in1 15 rfl rfl), by decide +kernel, by decide⟩
set_option maxRecDepth 100000 in
theorem kd_X10_seen : Cond.code mX10_seen.1 mX10_seen.2.1 mX10_seen.2.2.1 mX10_seen.2.2.2 ∈ lw_gd ∧ Cond.initialized mX10_seen.1.cls ∈ lw_gd ∧ (mX10_seen.1.cls ≠ "java/lang/invoke/MethodHandle" ∧ mX10_seen.1.cls ≠ "java/lang/invoke/VarHandle" ∧ (parseMethodDescriptor mX10_seen.1.desc).map (fun d => d.parameters.length) = some 4) ∧ mX10_seen.2.2.1 ≤ 80 := ⟨(px_in8 223 rfl rfl), (px_in1 15 rfl rfl), by decide +kernel, by decide⟩
set_option maxRecDepth 100000 in
theorem kd_X10_untell : Cond.code mX10_untell.1 mX10_untell.2.1 mX10_untell.2.2.1 mX10_untell.2.2.2 ∈ lw_gd ∧ Cond.initialized mX10_untell.1.cls ∈ lw_gd ∧ (mX10_untell.1.cls ≠ "java/lang/invoke/MethodHandle" ∧ mX10_untell.1.cls ≠ "java/lang/invoke/VarHandle" ∧ (parseMethodDescriptor mX10_untell.1.desc).map (fun d => d.parameters.length) = some 1) ∧ mX10_untell.2.2.1 ≤ 80 := ⟨(px_in8 227 rfl rfl), (px_in1 15 rfl rfl), by decide +kernel, by decide⟩
set_option maxRecDepth 100000 in
theorem kd_X10_later : Cond.code mX10_later.1 mX10_later.2.1 mX10_later.2.2.1 mX10_later.2.2.2 ∈ lw_gd ∧ Cond.initialized mX10_later.1.cls ∈ lw_gd ∧ (mX10_later.1.cls ≠ "java/lang/invoke/MethodHandle" ∧ mX10_later.1.cls ≠ "java/lang/invoke/VarHandle" ∧ (parseMethodDescriptor mX10_later.1.desc).map (fun d => d.parameters.length) = some 1) ∧ mX10_later.2.2.1 ≤ 80 := ⟨(px_in8 231 rfl rfl), (px_in1 15 rfl rfl), by decide +kernel, by decide⟩
set_option maxRecDepth 100000 in
theorem kd_X10_fitsFirm : Cond.code mX10_fitsFirm.1 mX10_fitsFirm.2.1 mX10_fitsFirm.2.2.1 mX10_fitsFirm.2.2.2 ∈ lw_gd ∧ Cond.initialized mX10_fitsFirm.1.cls ∈ lw_gd ∧ (mX10_fitsFirm.1.cls ≠ "java/lang/invoke/MethodHandle" ∧ mX10_fitsFirm.1.cls ≠ "java/lang/invoke/VarHandle" ∧ (parseMethodDescriptor mX10_fitsFirm.1.desc).map (fun d => d.parameters.length) = some 2) ∧ mX10_fitsFirm.2.2.1 ≤ 80 := ⟨(px_in9 4 rfl rfl), (px_in1 15 rfl rfl), by decide +kernel, by decide⟩
set_option maxRecDepth 100000 in
theorem kd_X10_layFits : Cond.code mX10_layFits.1 mX10_layFits.2.1 mX10_layFits.2.2.1 mX10_layFits.2.2.2 ∈ lw_gd ∧ Cond.initialized mX10_layFits.1.cls ∈ lw_gd ∧ (mX10_layFits.1.cls ≠ "java/lang/invoke/MethodHandle" ∧ mX10_layFits.1.cls ≠ "java/lang/invoke/VarHandle" ∧ (parseMethodDescriptor mX10_layFits.1.desc).map (fun d => d.parameters.length) = some 1) ∧ mX10_layFits.2.2.1 ≤ 80 := ⟨(px_in9 0 rfl rfl), (px_in1 15 rfl rfl), by decide +kernel, by decide⟩
set_option maxRecDepth 100000 in
theorem kd_X10_fits : Cond.code mX10_fits.1 mX10_fits.2.1 mX10_fits.2.2.1 mX10_fits.2.2.2 ∈ lw_gd ∧ Cond.initialized mX10_fits.1.cls ∈ lw_gd ∧ (mX10_fits.1.cls ≠ "java/lang/invoke/MethodHandle" ∧ mX10_fits.1.cls ≠ "java/lang/invoke/VarHandle" ∧ (parseMethodDescriptor mX10_fits.1.desc).map (fun d => d.parameters.length) = some 1) ∧ mX10_fits.2.2.1 ≤ 80 := ⟨(px_in8 236 rfl rfl), (px_in1 15 rfl rfl), by decide +kernel, by decide⟩
set_option maxRecDepth 100000 in
theorem kd_X10_sure : Cond.code mX10_sure.1 mX10_sure.2.1 mX10_sure.2.2.1 mX10_sure.2.2.2 ∈ lw_gd ∧ Cond.initialized mX10_sure.1.cls ∈ lw_gd ∧ (mX10_sure.1.cls ≠ "java/lang/invoke/MethodHandle" ∧ mX10_sure.1.cls ≠ "java/lang/invoke/VarHandle" ∧ (parseMethodDescriptor mX10_sure.1.desc).map (fun d => d.parameters.length) = some 2) ∧ mX10_sure.2.2.1 ≤ 80 := ⟨(px_in9 8 rfl rfl), (px_in1 15 rfl rfl), by decide +kernel, by decide⟩
set_option maxRecDepth 100000 in
theorem kd_X10_leftBy : Cond.code mX10_leftBy.1 mX10_leftBy.2.1 mX10_leftBy.2.2.1 mX10_leftBy.2.2.2 ∈ lw_gd ∧ Cond.initialized mX10_leftBy.1.cls ∈ lw_gd ∧ (mX10_leftBy.1.cls ≠ "java/lang/invoke/MethodHandle" ∧ mX10_leftBy.1.cls ≠ "java/lang/invoke/VarHandle" ∧ (parseMethodDescriptor mX10_leftBy.1.desc).map (fun d => d.parameters.length) = some 2) ∧ mX10_leftBy.2.2.1 ≤ 80 := ⟨(px_in9 16 rfl rfl), (px_in1 15 rfl rfl), by decide +kernel, by decide⟩
set_option maxRecDepth 100000 in
theorem kd_X10_ask : Cond.code mX10_ask.1 mX10_ask.2.1 mX10_ask.2.2.1 mX10_ask.2.2.2 ∈ lw_gd ∧ Cond.initialized mX10_ask.1.cls ∈ lw_gd ∧ (mX10_ask.1.cls ≠ "java/lang/invoke/MethodHandle" ∧ mX10_ask.1.cls ≠ "java/lang/invoke/VarHandle" ∧ (parseMethodDescriptor mX10_ask.1.desc).map (fun d => d.parameters.length) = some 3) ∧ mX10_ask.2.2.1 ≤ 80 := ⟨(px_in9 12 rfl rfl), (px_in1 15 rfl rfl), by decide +kernel, by decide⟩
set_option maxRecDepth 100000 in
theorem kd_X10_isBox : Cond.code mX10_isBox.1 mX10_isBox.2.1 mX10_isBox.2.2.1 mX10_isBox.2.2.2 ∈ lw_gd ∧ Cond.initialized mX10_isBox.1.cls ∈ lw_gd ∧ (mX10_isBox.1.cls ≠ "java/lang/invoke/MethodHandle" ∧ mX10_isBox.1.cls ≠ "java/lang/invoke/VarHandle" ∧ (parseMethodDescriptor mX10_isBox.1.desc).map (fun d => d.parameters.length) = some 1) ∧ mX10_isBox.2.2.1 ≤ 80 := ⟨(px_in9 23 rfl rfl), (px_in1 15 rfl rfl), by decide +kernel, by decide⟩
set_option maxRecDepth 100000 in
theorem kd_X10_image : Cond.code mX10_image.1 mX10_image.2.1 mX10_image.2.2.1 mX10_image.2.2.2 ∈ lw_gd ∧ Cond.initialized mX10_image.1.cls ∈ lw_gd ∧ (mX10_image.1.cls ≠ "java/lang/invoke/MethodHandle" ∧ mX10_image.1.cls ≠ "java/lang/invoke/VarHandle" ∧ (parseMethodDescriptor mX10_image.1.desc).map (fun d => d.parameters.length) = some 1) ∧ mX10_image.2.2.1 ≤ 80 := ⟨(px_in9 20 rfl rfl), (px_in1 15 rfl rfl), by decide +kernel, by decide⟩
set_option maxRecDepth 100000 in
theorem kd_X10_back : Cond.code mX10_back.1 mX10_back.2.1 mX10_back.2.2.1 mX10_back.2.2.2 ∈ lw_gd ∧ Cond.initialized mX10_back.1.cls ∈ lw_gd ∧ (mX10_back.1.cls ≠ "java/lang/invoke/MethodHandle" ∧ mX10_back.1.cls ≠ "java/lang/invoke/VarHandle" ∧ (parseMethodDescriptor mX10_back.1.desc).map (fun d => d.parameters.length) = some 1) ∧ mX10_back.2.2.1 ≤ 80 := ⟨(px_in9 27 rfl rfl), (px_in1 15 rfl rfl), by decide +kernel, by decide⟩
set_option maxRecDepth 100000 in
theorem kd_X10_about : Cond.code mX10_about.1 mX10_about.2.1 mX10_about.2.2.1 mX10_about.2.2.2 ∈ lw_gd ∧ Cond.initialized mX10_about.1.cls ∈ lw_gd ∧ (mX10_about.1.cls ≠ "java/lang/invoke/MethodHandle" ∧ mX10_about.1.cls ≠ "java/lang/invoke/VarHandle" ∧ (parseMethodDescriptor mX10_about.1.desc).map (fun d => d.parameters.length) = some 1) ∧ mX10_about.2.2.1 ≤ 80 := ⟨(px_in9 31 rfl rfl), (px_in1 15 rfl rfl), by decide +kernel, by decide⟩
set_option maxRecDepth 100000 in
theorem kd_J11_isValidCodePoint_9a6ad : Cond.code mJ11_isValidCodePoint_9a6ad.1 mJ11_isValidCodePoint_9a6ad.2.1 mJ11_isValidCodePoint_9a6ad.2.2.1 mJ11_isValidCodePoint_9a6ad.2.2.2 ∈ lw_gd ∧ Cond.initialized mJ11_isValidCodePoint_9a6ad.1.cls ∈ lw_gd ∧ (mJ11_isValidCodePoint_9a6ad.1.cls ≠ "java/lang/invoke/MethodHandle" ∧ mJ11_isValidCodePoint_9a6ad.1.cls ≠ "java/lang/invoke/VarHandle" ∧ (parseMethodDescriptor mJ11_isValidCodePoint_9a6ad.1.desc).map (fun d => d.parameters.length) = some 1) ∧ mJ11_isValidCodePoint_9a6ad.2.2.1 ≤ 80 := ⟨(px_in3 82 rfl rfl), (px_in1 17 rfl rfl), by decide +kernel, by decide⟩
set_option maxRecDepth 100000 in
theorem kd_J11_highSurrogate_5068e : Cond.code mJ11_highSurrogate_5068e.1 mJ11_highSurrogate_5068e.2.1 mJ11_highSurrogate_5068e.2.2.1 mJ11_highSurrogate_5068e.2.2.2 ∈ lw_gd ∧ Cond.initialized mJ11_highSurrogate_5068e.1.cls ∈ lw_gd ∧ (mJ11_highSurrogate_5068e.1.cls ≠ "java/lang/invoke/MethodHandle" ∧ mJ11_highSurrogate_5068e.1.cls ≠ "java/lang/invoke/VarHandle" ∧ (parseMethodDescriptor mJ11_highSurrogate_5068e.1.desc).map (fun d => d.parameters.length) = some 1) ∧ mJ11_highSurrogate_5068e.2.2.1 ≤ 80 := ⟨(px_in3 85 rfl rfl), (px_in1 17 rfl rfl), by decide +kernel, by decide⟩
set_option maxRecDepth 100000 in
theorem kd_J11_lowSurrogate_5068e : Cond.code mJ11_lowSurrogate_5068e.1 mJ11_lowSurrogate_5068e.2.1 mJ11_lowSurrogate_5068e.2.2.1 mJ11_lowSurrogate_5068e.2.2.2 ∈ lw_gd ∧ Cond.initialized mJ11_lowSurrogate_5068e.1.cls ∈ lw_gd ∧ (mJ11_lowSurrogate_5068e.1.cls ≠ "java/lang/invoke/MethodHandle" ∧ mJ11_lowSurrogate_5068e.1.cls ≠ "java/lang/invoke/VarHandle" ∧ (parseMethodDescriptor mJ11_lowSurrogate_5068e.1.desc).map (fun d => d.parameters.length) = some 1) ∧ mJ11_lowSurrogate_5068e.2.2.1 ≤ 80 := ⟨(px_in3 89 rfl rfl), (px_in1 17 rfl rfl), by decide +kernel, by decide⟩
set_option maxRecDepth 100000 in
theorem kd_J6_bitCount_0f7a4 : Cond.code mJ6_bitCount_0f7a4.1 mJ6_bitCount_0f7a4.2.1 mJ6_bitCount_0f7a4.2.2.1 mJ6_bitCount_0f7a4.2.2.2 ∈ lw_gd ∧ Cond.initialized mJ6_bitCount_0f7a4.1.cls ∈ lw_gd ∧ (mJ6_bitCount_0f7a4.1.cls ≠ "java/lang/invoke/MethodHandle" ∧ mJ6_bitCount_0f7a4.1.cls ≠ "java/lang/invoke/VarHandle" ∧ (parseMethodDescriptor mJ6_bitCount_0f7a4.1.desc).map (fun d => d.parameters.length) = some 1) ∧ mJ6_bitCount_0f7a4.2.2.1 ≤ 80 := ⟨(px_in4 174 rfl rfl), (px_in1 19 rfl rfl), by decide +kernel, by decide⟩
set_option maxRecDepth 100000 in
theorem kd_J9_max_7cf53 : Cond.code mJ9_max_7cf53.1 mJ9_max_7cf53.2.1 mJ9_max_7cf53.2.2.1 mJ9_max_7cf53.2.2.2 ∈ lw_gd ∧ Cond.initialized mJ9_max_7cf53.1.cls ∈ lw_gd ∧ (mJ9_max_7cf53.1.cls ≠ "java/lang/invoke/MethodHandle" ∧ mJ9_max_7cf53.1.cls ≠ "java/lang/invoke/VarHandle" ∧ (parseMethodDescriptor mJ9_max_7cf53.1.desc).map (fun d => d.parameters.length) = some 2) ∧ mJ9_max_7cf53.2.2.1 ≤ 80 := ⟨(px_in3 51 rfl rfl), (px_in1 16 rfl rfl), by decide +kernel, by decide⟩
set_option maxRecDepth 100000 in
theorem kd_J9_min_7cf53 : Cond.code mJ9_min_7cf53.1 mJ9_min_7cf53.2.1 mJ9_min_7cf53.2.2.1 mJ9_min_7cf53.2.2.2 ∈ lw_gd ∧ Cond.initialized mJ9_min_7cf53.1.cls ∈ lw_gd ∧ (mJ9_min_7cf53.1.cls ≠ "java/lang/invoke/MethodHandle" ∧ mJ9_min_7cf53.1.cls ≠ "java/lang/invoke/VarHandle" ∧ (parseMethodDescriptor mJ9_min_7cf53.1.desc).map (fun d => d.parameters.length) = some 2) ∧ mJ9_min_7cf53.2.2.1 ≤ 80 := ⟨(px_in3 16 rfl rfl), (px_in1 16 rfl rfl), by decide +kernel, by decide⟩
set_option maxRecDepth 100000 in
theorem kd_J0_length_8abf5 : Cond.code mJ0_length_8abf5.1 mJ0_length_8abf5.2.1 mJ0_length_8abf5.2.2.1 mJ0_length_8abf5.2.2.2 ∈ lw_gd ∧ Cond.initialized mJ0_length_8abf5.1.cls ∈ lw_gd ∧ (mJ0_length_8abf5.1.cls ≠ "java/lang/invoke/MethodHandle" ∧ mJ0_length_8abf5.1.cls ≠ "java/lang/invoke/VarHandle" ∧ (parseMethodDescriptor mJ0_length_8abf5.1.desc).map (fun d => d.parameters.length) = some 0) ∧ mJ0_length_8abf5.2.2.1 ≤ 80 := ⟨(px_in1 184 rfl rfl), (px_in1 6 rfl rfl), by decide +kernel, by decide⟩
set_option maxRecDepth 100000 in
theorem kd_J0_charAt_5068e : Cond.code mJ0_charAt_5068e.1 mJ0_charAt_5068e.2.1 mJ0_charAt_5068e.2.2.1 mJ0_charAt_5068e.2.2.2 ∈ lw_gd ∧ Cond.initialized mJ0_charAt_5068e.1.cls ∈ lw_gd ∧ (mJ0_charAt_5068e.1.cls ≠ "java/lang/invoke/MethodHandle" ∧ mJ0_charAt_5068e.1.cls ≠ "java/lang/invoke/VarHandle" ∧ (parseMethodDescriptor mJ0_charAt_5068e.1.desc).map (fun d => d.parameters.length) = some 1) ∧ mJ0_charAt_5068e.2.2.1 ≤ 80 := ⟨(px_in1 194 rfl rfl), (px_in1 6 rfl rfl), by decide +kernel, by decide⟩
set_option maxRecDepth 100000 in
theorem kd_J0_indexOf_0f7a4 : Cond.code mJ0_indexOf_0f7a4.1 mJ0_indexOf_0f7a4.2.1 mJ0_indexOf_0f7a4.2.2.1 mJ0_indexOf_0f7a4.2.2.2 ∈ lw_gd ∧ Cond.initialized mJ0_indexOf_0f7a4.1.cls ∈ lw_gd ∧ (mJ0_indexOf_0f7a4.1.cls ≠ "java/lang/invoke/MethodHandle" ∧ mJ0_indexOf_0f7a4.1.cls ≠ "java/lang/invoke/VarHandle" ∧ (parseMethodDescriptor mJ0_indexOf_0f7a4.1.desc).map (fun d => d.parameters.length) = some 1) ∧ mJ0_indexOf_0f7a4.2.2.1 ≤ 80 := ⟨(px_in3 37 rfl rfl), (px_in1 6 rfl rfl), by decide +kernel, by decide⟩
set_option maxRecDepth 100000 in
theorem kd_J0_indexOf_7cf53 : Cond.code mJ0_indexOf_7cf53.1 mJ0_indexOf_7cf53.2.1 mJ0_indexOf_7cf53.2.2.1 mJ0_indexOf_7cf53.2.2.2 ∈ lw_gd ∧ Cond.initialized mJ0_indexOf_7cf53.1.cls ∈ lw_gd ∧ (mJ0_indexOf_7cf53.1.cls ≠ "java/lang/invoke/MethodHandle" ∧ mJ0_indexOf_7cf53.1.cls ≠ "java/lang/invoke/VarHandle" ∧ (parseMethodDescriptor mJ0_indexOf_7cf53.1.desc).map (fun d => d.parameters.length) = some 2) ∧ mJ0_indexOf_7cf53.2.2.1 ≤ 80 := ⟨(px_in3 41 rfl rfl), (px_in1 6 rfl rfl), by decide +kernel, by decide⟩
set_option maxRecDepth 100000 in
theorem kd_J0_coder_7d493 : Cond.code mJ0_coder_7d493.1 mJ0_coder_7d493.2.1 mJ0_coder_7d493.2.2.1 mJ0_coder_7d493.2.2.2 ∈ lw_gd ∧ Cond.initialized mJ0_coder_7d493.1.cls ∈ lw_gd ∧ (mJ0_coder_7d493.1.cls ≠ "java/lang/invoke/MethodHandle" ∧ mJ0_coder_7d493.1.cls ≠ "java/lang/invoke/VarHandle" ∧ (parseMethodDescriptor mJ0_coder_7d493.1.desc).map (fun d => d.parameters.length) = some 0) ∧ mJ0_coder_7d493.2.2.1 ≤ 80 := ⟨(px_in1 188 rfl rfl), (px_in1 6 rfl rfl), by decide +kernel, by decide⟩
set_option maxRecDepth 100000 in
theorem kd_J0_isLatin1_aae02 : Cond.code mJ0_isLatin1_aae02.1 mJ0_isLatin1_aae02.2.1 mJ0_isLatin1_aae02.2.2.1 mJ0_isLatin1_aae02.2.2.2 ∈ lw_gd ∧ Cond.initialized mJ0_isLatin1_aae02.1.cls ∈ lw_gd ∧ (mJ0_isLatin1_aae02.1.cls ≠ "java/lang/invoke/MethodHandle" ∧ mJ0_isLatin1_aae02.1.cls ≠ "java/lang/invoke/VarHandle" ∧ (parseMethodDescriptor mJ0_isLatin1_aae02.1.desc).map (fun d => d.parameters.length) = some 0) ∧ mJ0_isLatin1_aae02.2.2.1 ≤ 80 := ⟨(px_in1 198 rfl rfl), (px_in1 6 rfl rfl), by decide +kernel, by decide⟩
set_option maxRecDepth 100000 in
theorem kd_J0_checkIndex_df160 : Cond.code mJ0_checkIndex_df160.1 mJ0_checkIndex_df160.2.1 mJ0_checkIndex_df160.2.2.1 mJ0_checkIndex_df160.2.2.2 ∈ lw_gd ∧ Cond.initialized mJ0_checkIndex_df160.1.cls ∈ lw_gd ∧ (mJ0_checkIndex_df160.1.cls ≠ "java/lang/invoke/MethodHandle" ∧ mJ0_checkIndex_df160.1.cls ≠ "java/lang/invoke/VarHandle" ∧ (parseMethodDescriptor mJ0_checkIndex_df160.1.desc).map (fun d => d.parameters.length) = some 2) ∧ mJ0_checkIndex_df160.2.2.1 ≤ 80 := ⟨(px_in1 204 rfl rfl), (px_in1 6 rfl rfl), by decide +kernel, by decide⟩
set_option maxRecDepth 100000 in
theorem kd_J0_checkBoundsBeginEnd_23922 : Cond.code mJ0_checkBoundsBeginEnd_23922.1 mJ0_checkBoundsBeginEnd_23922.2.1 mJ0_checkBoundsBeginEnd_23922.2.2.1 mJ0_checkBoundsBeginEnd_23922.2.2.2 ∈ lw_gd ∧ Cond.initialized mJ0_checkBoundsBeginEnd_23922.1.cls ∈ lw_gd ∧ (mJ0_checkBoundsBeginEnd_23922.1.cls ≠ "java/lang/invoke/MethodHandle" ∧ mJ0_checkBoundsBeginEnd_23922.1.cls ≠ "java/lang/invoke/VarHandle" ∧ (parseMethodDescriptor mJ0_checkBoundsBeginEnd_23922.1.desc).map (fun d => d.parameters.length) = some 3) ∧ mJ0_checkBoundsBeginEnd_23922.2.2.1 ≤ 80 := ⟨(px_in3 70 rfl rfl), (px_in1 6 rfl rfl), by decide +kernel, by decide⟩
set_option maxRecDepth 100000 in
theorem kd_J1_charAt_3b067 : Cond.code mJ1_charAt_3b067.1 mJ1_charAt_3b067.2.1 mJ1_charAt_3b067.2.2.1 mJ1_charAt_3b067.2.2.2 ∈ lw_gd ∧ Cond.initialized mJ1_charAt_3b067.1.cls ∈ lw_gd ∧ (mJ1_charAt_3b067.1.cls ≠ "java/lang/invoke/MethodHandle" ∧ mJ1_charAt_3b067.1.cls ≠ "java/lang/invoke/VarHandle" ∧ (parseMethodDescriptor mJ1_charAt_3b067.1.desc).map (fun d => d.parameters.length) = some 2) ∧ mJ1_charAt_3b067.2.2.1 ≤ 80 := ⟨(px_in1 201 rfl rfl), (px_in1 7 rfl rfl), by decide +kernel, by decide⟩
set_option maxRecDepth 100000 in
theorem kd_J1_canEncode_9a6ad : Cond.code mJ1_canEncode_9a6ad.1 mJ1_canEncode_9a6ad.2.1 mJ1_canEncode_9a6ad.2.2.1 mJ1_canEncode_9a6ad.2.2.2 ∈ lw_gd ∧ Cond.initialized mJ1_canEncode_9a6ad.1.cls ∈ lw_gd ∧ (mJ1_canEncode_9a6ad.1.cls ≠ "java/lang/invoke/MethodHandle" ∧ mJ1_canEncode_9a6ad.1.cls ≠ "java/lang/invoke/VarHandle" ∧ (parseMethodDescriptor mJ1_canEncode_9a6ad.1.desc).map (fun d => d.parameters.length) = some 1) ∧ mJ1_canEncode_9a6ad.2.2.1 ≤ 80 := ⟨(px_in3 48 rfl rfl), (px_in1 7 rfl rfl), by decide +kernel, by decide⟩
set_option maxRecDepth 100000 in
theorem kd_J1_indexOf_4cfef : Cond.code mJ1_indexOf_4cfef.1 mJ1_indexOf_4cfef.2.1 mJ1_indexOf_4cfef.2.2.1 mJ1_indexOf_4cfef.2.2.2 ∈ lw_gd ∧ Cond.initialized mJ1_indexOf_4cfef.1.cls ∈ lw_gd ∧ (mJ1_indexOf_4cfef.1.cls ≠ "java/lang/invoke/MethodHandle" ∧ mJ1_indexOf_4cfef.1.cls ≠ "java/lang/invoke/VarHandle" ∧ (parseMethodDescriptor mJ1_indexOf_4cfef.1.desc).map (fun d => d.parameters.length) = some 4) ∧ mJ1_indexOf_4cfef.2.2.1 ≤ 80 := ⟨(px_in3 45 rfl rfl), (px_in1 7 rfl rfl), by decide +kernel, by decide⟩
set_option maxRecDepth 100000 in
theorem kd_J1_indexOfChar_4cfef : Cond.code mJ1_indexOfChar_4cfef.1 mJ1_indexOfChar_4cfef.2.1 mJ1_indexOfChar_4cfef.2.2.1 mJ1_indexOfChar_4cfef.2.2.2 ∈ lw_gd ∧ Cond.initialized mJ1_indexOfChar_4cfef.1.cls ∈ lw_gd ∧ (mJ1_indexOfChar_4cfef.1.cls ≠ "java/lang/invoke/MethodHandle" ∧ mJ1_indexOfChar_4cfef.1.cls ≠ "java/lang/invoke/VarHandle" ∧ (parseMethodDescriptor mJ1_indexOfChar_4cfef.1.desc).map (fun d => d.parameters.length) = some 4) ∧ mJ1_indexOfChar_4cfef.2.2.1 ≤ 80 := ⟨(px_in3 55 rfl rfl), (px_in1 7 rfl rfl), by decide +kernel, by decide⟩
set_option maxRecDepth 100000 in
theorem kd_J2_getChar_3b067 : Cond.code mJ2_getChar_3b067.1 mJ2_getChar_3b067.2.1 mJ2_getChar_3b067.2.2.1 mJ2_getChar_3b067.2.2.2 ∈ lw_gd ∧ Cond.initialized mJ2_getChar_3b067.1.cls ∈ lw_gd ∧ (mJ2_getChar_3b067.1.cls ≠ "java/lang/invoke/MethodHandle" ∧ mJ2_getChar_3b067.1.cls ≠ "java/lang/invoke/VarHandle" ∧ (parseMethodDescriptor mJ2_getChar_3b067.1.desc).map (fun d => d.parameters.length) = some 2) ∧ mJ2_getChar_3b067.2.2.1 ≤ 80 := ⟨(px_in1 222 rfl rfl), (px_in1 9 rfl rfl), by decide +kernel, by decide⟩
set_option maxRecDepth 100000 in
theorem kd_J2_length_9d52b : Cond.code mJ2_length_9d52b.1 mJ2_length_9d52b.2.1 mJ2_length_9d52b.2.2.1 mJ2_length_9d52b.2.2.2 ∈ lw_gd ∧ Cond.initialized mJ2_length_9d52b.1.cls ∈ lw_gd ∧ (mJ2_length_9d52b.1.cls ≠ "java/lang/invoke/MethodHandle" ∧ mJ2_length_9d52b.1.cls ≠ "java/lang/invoke/VarHandle" ∧ (parseMethodDescriptor mJ2_length_9d52b.1.desc).map (fun d => d.parameters.length) = some 1) ∧ mJ2_length_9d52b.2.2.1 ≤ 80 := ⟨(px_in1 218 rfl rfl), (px_in1 9 rfl rfl), by decide +kernel, by decide⟩
set_option maxRecDepth 100000 in
theorem kd_J2_indexOf_4cfef : Cond.code mJ2_indexOf_4cfef.1 mJ2_indexOf_4cfef.2.1 mJ2_indexOf_4cfef.2.2.1 mJ2_indexOf_4cfef.2.2.2 ∈ lw_gd ∧ Cond.initialized mJ2_indexOf_4cfef.1.cls ∈ lw_gd ∧ (mJ2_indexOf_4cfef.1.cls ≠ "java/lang/invoke/MethodHandle" ∧ mJ2_indexOf_4cfef.1.cls ≠ "java/lang/invoke/VarHandle" ∧ (parseMethodDescriptor mJ2_indexOf_4cfef.1.desc).map (fun d => d.parameters.length) = some 4) ∧ mJ2_indexOf_4cfef.2.2.1 ≤ 80 := ⟨(px_in3 58 rfl rfl), (px_in1 9 rfl rfl), by decide +kernel, by decide⟩
set_option maxRecDepth 100000 in
theorem kd_J2_indexOfChar_4cfef : Cond.code mJ2_indexOfChar_4cfef.1 mJ2_indexOfChar_4cfef.2.1 mJ2_indexOfChar_4cfef.2.2.1 mJ2_indexOfChar_4cfef.2.2.2 ∈ lw_gd ∧ Cond.initialized mJ2_indexOfChar_4cfef.1.cls ∈ lw_gd ∧ (mJ2_indexOfChar_4cfef.1.cls ≠ "java/lang/invoke/MethodHandle" ∧ mJ2_indexOfChar_4cfef.1.cls ≠ "java/lang/invoke/VarHandle" ∧ (parseMethodDescriptor mJ2_indexOfChar_4cfef.1.desc).map (fun d => d.parameters.length) = some 4) ∧ mJ2_indexOfChar_4cfef.2.2.1 ≤ 80 := ⟨(px_in3 64 rfl rfl), (px_in1 9 rfl rfl), by decide +kernel, by decide⟩
set_option maxRecDepth 100000 in
theorem kd_J2_indexOfCharUnsafe_4cfef : Cond.code mJ2_indexOfCharUnsafe_4cfef.1 mJ2_indexOfCharUnsafe_4cfef.2.1 mJ2_indexOfCharUnsafe_4cfef.2.2.1 mJ2_indexOfCharUnsafe_4cfef.2.2.2 ∈ lw_gd ∧ Cond.initialized mJ2_indexOfCharUnsafe_4cfef.1.cls ∈ lw_gd ∧ (mJ2_indexOfCharUnsafe_4cfef.1.cls ≠ "java/lang/invoke/MethodHandle" ∧ mJ2_indexOfCharUnsafe_4cfef.1.cls ≠ "java/lang/invoke/VarHandle" ∧ (parseMethodDescriptor mJ2_indexOfCharUnsafe_4cfef.1.desc).map (fun d => d.parameters.length) = some 4) ∧ mJ2_indexOfCharUnsafe_4cfef.2.2.1 ≤ 80 := ⟨(px_in3 76 rfl rfl), (px_in1 9 rfl rfl), by decide +kernel, by decide⟩
set_option maxRecDepth 100000 in
theorem kd_J2_indexOfSupplementary_4cfef : Cond.code mJ2_indexOfSupplementary_4cfef.1 mJ2_indexOfSupplementary_4cfef.2.1 mJ2_indexOfSupplementary_4cfef.2.2.1 mJ2_indexOfSupplementary_4cfef.2.2.2 ∈ lw_gd ∧ Cond.initialized mJ2_indexOfSupplementary_4cfef.1.cls ∈ lw_gd ∧ (mJ2_indexOfSupplementary_4cfef.1.cls ≠ "java/lang/invoke/MethodHandle" ∧ mJ2_indexOfSupplementary_4cfef.1.cls ≠ "java/lang/invoke/VarHandle" ∧ (parseMethodDescriptor mJ2_indexOfSupplementary_4cfef.1.desc).map (fun d => d.parameters.length) = some 4) ∧ mJ2_indexOfSupplementary_4cfef.2.2.1 ≤ 80 := ⟨(px_in3 79 rfl rfl), (px_in1 9 rfl rfl), by decide +kernel, by decide⟩
set_option maxRecDepth 100000 in
theorem kd_J2_charAt_3b067 : Cond.code mJ2_charAt_3b067.1 mJ2_charAt_3b067.2.1 mJ2_charAt_3b067.2.2.1 mJ2_charAt_3b067.2.2.2 ∈ lw_gd ∧ Cond.initialized mJ2_charAt_3b067.1.cls ∈ lw_gd ∧ (mJ2_charAt_3b067.1.cls ≠ "java/lang/invoke/MethodHandle" ∧ mJ2_charAt_3b067.1.cls ≠ "java/lang/invoke/VarHandle" ∧ (parseMethodDescriptor mJ2_charAt_3b067.1.desc).map (fun d => d.parameters.length) = some 2) ∧ mJ2_charAt_3b067.2.2.1 ≤ 80 := ⟨(px_in1 212 rfl rfl), (px_in1 9 rfl rfl), by decide +kernel, by decide⟩
set_option maxRecDepth 100000 in
theorem kd_J2_checkIndex_2214a : Cond.code mJ2_checkIndex_2214a.1 mJ2_checkIndex_2214a.2.1 mJ2_checkIndex_2214a.2.2.1 mJ2_checkIndex_2214a.2.2.2 ∈ lw_gd ∧ Cond.initialized mJ2_checkIndex_2214a.1.cls ∈ lw_gd ∧ (mJ2_checkIndex_2214a.1.cls ≠ "java/lang/invoke/MethodHandle" ∧ mJ2_checkIndex_2214a.1.cls ≠ "java/lang/invoke/VarHandle" ∧ (parseMethodDescriptor mJ2_checkIndex_2214a.1.desc).map (fun d => d.parameters.length) = some 2) ∧ mJ2_checkIndex_2214a.2.2.1 ≤ 80 := ⟨(px_in1 215 rfl rfl), (px_in1 9 rfl rfl), by decide +kernel, by decide⟩
set_option maxRecDepth 100000 in
theorem kd_J2_checkBoundsBeginEnd_d044e : Cond.code mJ2_checkBoundsBeginEnd_d044e.1 mJ2_checkBoundsBeginEnd_d044e.2.1 mJ2_checkBoundsBeginEnd_d044e.2.2.1 mJ2_checkBoundsBeginEnd_d044e.2.2.2 ∈ lw_gd ∧ Cond.initialized mJ2_checkBoundsBeginEnd_d044e.1.cls ∈ lw_gd ∧ (mJ2_checkBoundsBeginEnd_d044e.1.cls ≠ "java/lang/invoke/MethodHandle" ∧ mJ2_checkBoundsBeginEnd_d044e.1.cls ≠ "java/lang/invoke/VarHandle" ∧ (parseMethodDescriptor mJ2_checkBoundsBeginEnd_d044e.1.desc).map (fun d => d.parameters.length) = some 3) ∧ mJ2_checkBoundsBeginEnd_d044e.2.2.1 ≤ 80 := ⟨(px_in3 67 rfl rfl), (px_in1 9 rfl rfl), by decide +kernel, by decide⟩
set_option maxRecDepth 100000 in
theorem kd_J7_fill_53178 : Cond.code mJ7_fill_53178.1 mJ7_fill_53178.2.1 mJ7_fill_53178.2.2.1 mJ7_fill_53178.2.2.2 ∈ lw_gd ∧ Cond.initialized mJ7_fill_53178.1.cls ∈ lw_gd ∧ (mJ7_fill_53178.1.cls ≠ "java/lang/invoke/MethodHandle" ∧ mJ7_fill_53178.1.cls ≠ "java/lang/invoke/VarHandle" ∧ (parseMethodDescriptor mJ7_fill_53178.1.desc).map (fun d => d.parameters.length) = some 2) ∧ mJ7_fill_53178.2.2.1 ≤ 80 := ⟨(px_in5 96 rfl rfl), (px_in1 20 rfl rfl), by decide +kernel, by decide⟩
set_option maxRecDepth 100000 in
theorem kd_J3_checkIndex_8e157 : Cond.code mJ3_checkIndex_8e157.1 mJ3_checkIndex_8e157.2.1 mJ3_checkIndex_8e157.2.2.1 mJ3_checkIndex_8e157.2.2.2 ∈ lw_gd ∧ Cond.initialized mJ3_checkIndex_8e157.1.cls ∈ lw_gd ∧ (mJ3_checkIndex_8e157.1.cls ≠ "java/lang/invoke/MethodHandle" ∧ mJ3_checkIndex_8e157.1.cls ≠ "java/lang/invoke/VarHandle" ∧ (parseMethodDescriptor mJ3_checkIndex_8e157.1.desc).map (fun d => d.parameters.length) = some 3) ∧ mJ3_checkIndex_8e157.2.2.1 ≤ 80 := ⟨(px_in1 209 rfl rfl), (px_in1 8 rfl rfl), by decide +kernel, by decide⟩
set_option maxRecDepth 100000 in
theorem kd_J3_checkFromToIndex_8c36e : Cond.code mJ3_checkFromToIndex_8c36e.1 mJ3_checkFromToIndex_8c36e.2.1 mJ3_checkFromToIndex_8c36e.2.2.1 mJ3_checkFromToIndex_8c36e.2.2.2 ∈ lw_gd ∧ Cond.initialized mJ3_checkFromToIndex_8c36e.1.cls ∈ lw_gd ∧ (mJ3_checkFromToIndex_8c36e.1.cls ≠ "java/lang/invoke/MethodHandle" ∧ mJ3_checkFromToIndex_8c36e.1.cls ≠ "java/lang/invoke/VarHandle" ∧ (parseMethodDescriptor mJ3_checkFromToIndex_8c36e.1.desc).map (fun d => d.parameters.length) = some 4) ∧ mJ3_checkFromToIndex_8c36e.2.2.1 ≤ 80 := ⟨(px_in3 73 rfl rfl), (px_in1 8 rfl rfl), by decide +kernel, by decide⟩
theorem lk_9_19 : px_lkI "NettleGreen" 19 mX2_init 0 := ⟨kd_X2_init, (px_in1 31 rfl rfl), (px_in1 32 rfl rfl), rfl, rfl⟩
theorem lk_9_32 : px_lkN "NettleGreen" 32 mX5_init 0 := ⟨kd_X5_init, ⟨"NettleGreen", List.mem_filter.mpr ⟨px_t1 _ (List.mem_of_getElem? (i := 170) rfl), rfl⟩⟩, (px_in1 171 rfl rfl), rfl, rfl⟩
theorem lk_9_39 : px_lkN "NettleGreen" 39 mX8_init 0 := ⟨kd_X8_init, ⟨"NettleGreen", List.mem_filter.mpr ⟨px_t2 _ (List.mem_of_getElem? (i := 51) rfl), rfl⟩⟩, (px_in2 52 rfl rfl), rfl, rfl⟩
theorem lk_9_46 : px_lkN "NettleGreen" 46 mX3_init 0 := ⟨kd_X3_init, ⟨"NettleGreen", List.mem_filter.mpr ⟨px_t2 _ (List.mem_of_getElem? (i := 88) rfl), rfl⟩⟩, (px_in2 89 rfl rfl), rfl, rfl⟩
theorem lk_9_60 : px_lkN "NettleGreen" 60 mX4_init 0 := ⟨kd_X4_init, ⟨"NettleGreen", List.mem_filter.mpr ⟨px_t2 _ (List.mem_of_getElem? (i := 104) rfl), rfl⟩⟩, (px_in2 105 rfl rfl), rfl, rfl⟩
theorem lk_9_67 : px_lkN "NettleGreen" 67 mX0_init 0 := ⟨kd_X0_init, ⟨"NettleGreen", List.mem_filter.mpr ⟨px_t2 _ (List.mem_of_getElem? (i := 127) rfl), rfl⟩⟩, (px_in2 128 rfl rfl), rfl, rfl⟩
theorem lk_9_74 : px_lkN "NettleGreen" 74 mX7_init 0 := ⟨kd_X7_init, ⟨"NettleGreen", List.mem_filter.mpr ⟨px_t2 _ (List.mem_of_getElem? (i := 137) rfl), rfl⟩⟩, (px_in2 138 rfl rfl), rfl, rfl⟩
theorem lk_9_85 : px_lkV "NettleGreen" 85 mX9_putFour 9 1 := ⟨kd_X9_putFour, (px_in2 233 rfl rfl), (px_in2 235 rfl rfl), (px_inP1 0 rfl rfl), by decide, _, _, rfl⟩
theorem lk_9_89 : px_lkV "NettleGreen" 89 mX5_read 5 2 := ⟨kd_X5_read, (px_in3 5 rfl rfl), (px_in3 6 rfl rfl), (px_in3 7 rfl rfl), by decide, _, _, rfl⟩
theorem lk_9_95 : px_lkV "NettleGreen" 95 mX5_swapDraft 5 1 := ⟨kd_X5_swapDraft, (px_in3 186 rfl rfl), (px_in3 187 rfl rfl), (px_in3 188 rfl rfl), by decide, _, _, rfl⟩
theorem lk_9_99 : px_lkV "NettleGreen" 99 mX8_setAsTold 8 1 := ⟨kd_X8_setAsTold, (px_in3 190 rfl rfl), (px_in3 191 rfl rfl), (px_in3 192 rfl rfl), by decide, _, _, rfl⟩
theorem lk_9_103 : px_lkV "NettleGreen" 103 mX3_restart 3 1 := ⟨kd_X3_restart, (px_in3 197 rfl rfl), (px_in3 198 rfl rfl), (px_in3 199 rfl rfl), by decide, _, _, rfl⟩
theorem lk_9_107 : px_lkV "NettleGreen" 107 mX7_forget 7 0 := ⟨kd_X7_forget, (px_in3 205 rfl rfl), (px_in3 206 rfl rfl), (px_in3 207 rfl rfl), by decide, _, _, rfl⟩
theorem lk_9_113 : px_lkV "NettleGreen" 113 mX9_isPerson 9 1 := ⟨kd_X9_isPerson, (px_in3 217 rfl rfl), (px_in3 219 rfl rfl), (px_inP2 9 rfl rfl), by decide, _, _, rfl⟩
theorem lk_9_126 : px_lkV "NettleGreen" 126 mX2_liesAbed 2 2 := ⟨kd_X2_liesAbed, (px_in3 221 rfl rfl), (px_in3 222 rfl rfl), (px_in3 223 rfl rfl), by decide, _, _, rfl⟩
theorem lk_9_130 : px_lkV "NettleGreen" 130 mX9_isMeeting 9 1 := ⟨kd_X9_isMeeting, (px_in3 229 rfl rfl), (px_in3 231 rfl rfl), (px_inP2 10 rfl rfl), by decide, _, _, rfl⟩
theorem lk_9_142 : px_lkV "NettleGreen" 142 mX8_isForbidden 8 1 := ⟨kd_X8_isForbidden, (px_in3 233 rfl rfl), (px_in3 234 rfl rfl), (px_in3 235 rfl rfl), by decide, _, _, rfl⟩
theorem lk_9_145 : px_lkV "NettleGreen" 145 mX9_isBrother 9 1 := ⟨kd_X9_isBrother, (px_in4 1 rfl rfl), (px_in4 3 rfl rfl), (px_inP2 11 rfl rfl), by decide, _, _, rfl⟩
theorem lk_9_157 : px_lkS "NettleGreen" 157 mX9_isZeroOrOne 1 := ⟨kd_X9_isZeroOrOne, (px_in4 13 rfl rfl), (px_in4 14 rfl rfl)⟩
theorem lk_9_167 : px_lkV "NettleGreen" 167 mX1_lumpsLeft 1 4 := ⟨kd_X1_lumpsLeft, (px_in4 16 rfl rfl), (px_in4 17 rfl rfl), (px_in4 18 rfl rfl), by decide, _, _, rfl⟩
theorem lk_9_173 : px_lkV "NettleGreen" 173 mX2_abedBits 2 1 := ⟨kd_X2_abedBits, (px_in4 32 rfl rfl), (px_in4 33 rfl rfl), (px_in4 34 rfl rfl), by decide, _, _, rfl⟩
theorem lk_9_177 : px_lkV "NettleGreen" 177 mX2_passDay 2 3 := ⟨kd_X2_passDay, (px_in4 41 rfl rfl), (px_in4 42 rfl rfl), (px_in4 43 rfl rfl), by decide, _, _, rfl⟩
theorem lk_9_181 : px_lkV "NettleGreen" 181 mX3_keepAct 3 1 := ⟨kd_X3_keepAct, (px_in4 65 rfl rfl), (px_in4 66 rfl rfl), (px_in4 67 rfl rfl), by decide, _, _, rfl⟩
theorem lk_9_184 : px_lkV "NettleGreen" 184 mX9_turnForbidden 9 1 := ⟨kd_X9_turnForbidden, (px_in4 78 rfl rfl), (px_in4 80 rfl rfl), (px_inP2 14 rfl rfl), by decide, _, _, rfl⟩
theorem lk_9_188 : px_lkV "NettleGreen" 188 mX2_coolOne 2 3 := ⟨kd_X2_coolOne, (px_in4 90 rfl rfl), (px_in4 57 rfl rfl), (px_in4 58 rfl rfl), by decide, _, _, rfl⟩
theorem lk_9_192 : px_lkV "NettleGreen" 192 mX3_stepBack 3 1 := ⟨kd_X3_stepBack, (px_in4 95 rfl rfl), (px_in4 96 rfl rfl), (px_in4 97 rfl rfl), by decide, _, _, rfl⟩
theorem lk_9_196 : px_lkV "NettleGreen" 196 mX3_stepOn 3 1 := ⟨kd_X3_stepOn, (px_in4 107 rfl rfl), (px_in4 108 rfl rfl), (px_in4 109 rfl rfl), by decide, _, _, rfl⟩
theorem lk_9_199 : px_lkS "NettleGreen" 199 mX9_isWithin 2 := ⟨kd_X9_isWithin, (px_in4 115 rfl rfl), (px_in4 116 rfl rfl)⟩
theorem lk_9_203 : px_lkV "NettleGreen" 203 mX4_lumpsBehind 4 5 := ⟨kd_X4_lumpsBehind, (px_in4 118 rfl rfl), (px_in4 119 rfl rfl), (px_in4 120 rfl rfl), by decide, _, _, rfl⟩
theorem lk_9_207 : px_lkV "NettleGreen" 207 mX4_firmBehind 4 4 := ⟨kd_X4_firmBehind, (px_in4 131 rfl rfl), (px_in4 132 rfl rfl), (px_in4 133 rfl rfl), by decide, _, _, rfl⟩
theorem lk_9_211 : px_lkV "NettleGreen" 211 mX4_hurtBehind 4 3 := ⟨kd_X4_hurtBehind, (px_in4 147 rfl rfl), (px_in4 148 rfl rfl), (px_in4 149 rfl rfl), by decide, _, _, rfl⟩
theorem lk_9_215 : px_lkV "NettleGreen" 215 mX4_daysTillAbed 4 4 := ⟨kd_X4_daysTillAbed, (px_in4 155 rfl rfl), (px_in4 156 rfl rfl), (px_in4 157 rfl rfl), by decide, _, _, rfl⟩
theorem lk_9_218 : px_lkV "NettleGreen" 218 mX4_leastToForbid 4 3 := ⟨kd_X4_leastToForbid, (px_in4 168 rfl rfl), (px_in4 169 rfl rfl), (px_in4 170 rfl rfl), by decide, _, _, rfl⟩
theorem lk_9_221 : px_lkS "NettleGreen" 221 mJ6_bitCount_0f7a4 1 := ⟨kd_J6_bitCount_0f7a4, (px_in4 182 rfl rfl), (px_in4 173 rfl rfl)⟩
theorem lk_9_226 : px_lkV "NettleGreen" 226 mX4_bestOrder 4 5 := ⟨kd_X4_bestOrder, (px_in4 187 rfl rfl), (px_in4 188 rfl rfl), (px_in4 189 rfl rfl), by decide, _, _, rfl⟩
theorem lk_9_230 : px_lkV "NettleGreen" 230 mX4_leastGrip 4 4 := ⟨kd_X4_leastGrip, (px_in4 210 rfl rfl), (px_in4 211 rfl rfl), (px_in4 212 rfl rfl), by decide, _, _, rfl⟩
theorem lk_9_233 : px_lkV "NettleGreen" 233 mX4_choosePupil 4 3 := ⟨kd_X4_choosePupil, (px_in4 218 rfl rfl), (px_in4 219 rfl rfl), (px_in4 220 rfl rfl), by decide, _, _, rfl⟩
theorem lk_9_237 : px_lkV "NettleGreen" 237 mX9_chosen 9 1 := ⟨kd_X9_chosen, (px_in4 226 rfl rfl), (px_in4 228 rfl rfl), (px_inP3 5 rfl rfl), by decide, _, _, rfl⟩
theorem lk_9_243 : px_lkV "NettleGreen" 243 mX0_fewestGroups 0 3 := ⟨kd_X0_fewestGroups, (px_in4 234 rfl rfl), (px_in4 235 rfl rfl), (px_in4 236 rfl rfl), by decide, _, _, rfl⟩
theorem lk_9_247 : px_lkV "NettleGreen" 247 mX0_stepsBetween 0 4 := ⟨kd_X0_stepsBetween, (px_in5 14 rfl rfl), (px_in5 15 rfl rfl), (px_in5 16 rfl rfl), by decide, _, _, rfl⟩
theorem lk_9_251 : px_lkV "NettleGreen" 251 mX4_daysTillSettled 4 3 := ⟨kd_X4_daysTillSettled, (px_in5 22 rfl rfl), (px_in5 23 rfl rfl), (px_in5 24 rfl rfl), by decide, _, _, rfl⟩
theorem lk_9_254 : px_lkV "NettleGreen" 254 mX4_isRest 4 5 := ⟨kd_X4_isRest, (px_in5 34 rfl rfl), (px_in5 35 rfl rfl), (px_in5 36 rfl rfl), by decide, _, _, rfl⟩
theorem lk_9_258 : px_lkV "NettleGreen" 258 mX4_chooseScourge 4 3 := ⟨kd_X4_chooseScourge, (px_in5 46 rfl rfl), (px_in5 47 rfl rfl), (px_in5 48 rfl rfl), by decide, _, _, rfl⟩
theorem lk_9_261 : px_lkV "NettleGreen" 261 mX4_chooseRelief 4 4 := ⟨kd_X4_chooseRelief, (px_in5 54 rfl rfl), (px_in5 55 rfl rfl), (px_in5 56 rfl rfl), by decide, _, _, rfl⟩
theorem lk_9_265 : px_lkV "NettleGreen" 265 mX9_firstGreatest 9 1 := ⟨kd_X9_firstGreatest, (px_in5 63 rfl rfl), (px_in5 65 rfl rfl), (px_inP3 8 rfl rfl), by decide, _, _, rfl⟩
theorem lk_9_272 : px_lkV "NettleGreen" 272 mX2_takesPlace 2 2 := ⟨kd_X2_takesPlace, (px_in5 75 rfl rfl), (px_in4 46 rfl rfl), (px_in4 47 rfl rfl), by decide, _, _, rfl⟩
theorem lk_9_275 : px_lkV "NettleGreen" 275 mX0_companyOf 0 3 := ⟨kd_X0_companyOf, (px_in5 80 rfl rfl), (px_in4 239 rfl rfl), (px_in5 0 rfl rfl), by decide, _, _, rfl⟩
theorem lk_9_279 : px_lkV "NettleGreen" 279 mX2_allPeople 2 0 := ⟨kd_X2_allPeople, (px_in5 85 rfl rfl), (px_in4 179 rfl rfl), (px_in4 180 rfl rfl), by decide, _, _, rfl⟩
theorem lk_9_286 : px_lkV "NettleGreen" 286 mX4_hurtIfAllAre 4 4 := ⟨kd_X4_hurtIfAllAre, (px_in5 90 rfl rfl), (px_in5 91 rfl rfl), (px_in5 92 rfl rfl), by decide, _, _, rfl⟩
theorem lk_9_289 : px_lkV "NettleGreen" 289 mX4_daysTillMeeting 4 4 := ⟨kd_X4_daysTillMeeting, (px_in5 101 rfl rfl), (px_in5 102 rfl rfl), (px_in5 103 rfl rfl), by decide, _, _, rfl⟩
theorem lk_9_295 : px_lkS "NettleGreen" 295 mX9_greatestDivisor 2 := ⟨kd_X9_greatestDivisor, (px_in5 109 rfl rfl), (px_in5 110 rfl rfl)⟩
theorem lk_9_299 : px_lkV "NettleGreen" 299 mX7_add 7 4 := ⟨kd_X7_add, (px_in5 121 rfl rfl), (px_in5 122 rfl rfl), (px_in5 123 rfl rfl), by decide, _, _, rfl⟩
theorem lk_9_303 : px_lkV "NettleGreen" 303 mX7_withdraw 7 1 := ⟨kd_X7_withdraw, (px_in5 129 rfl rfl), (px_in5 130 rfl rfl), (px_in5 131 rfl rfl), by decide, _, _, rfl⟩
theorem lk_9_306 : px_lkV "NettleGreen" 306 mX7_passTime 7 1 := ⟨kd_X7_passTime, (px_in5 137 rfl rfl), (px_in5 138 rfl rfl), (px_in5 139 rfl rfl), by decide, _, _, rfl⟩
theorem lk_9_309 : px_lkV "NettleGreen" 309 mX7_fitting 7 2 := ⟨kd_X7_fitting, (px_in5 146 rfl rfl), (px_in5 147 rfl rfl), (px_in5 148 rfl rfl), by decide, _, _, rfl⟩
theorem lk_9_313 : px_lkV "NettleGreen" 313 mX7_mostLeft 7 3 := ⟨kd_X7_mostLeft, (px_in5 175 rfl rfl), (px_in5 176 rfl rfl), (px_in5 177 rfl rfl), by decide, _, _, rfl⟩
theorem lk_9_317 : px_lkS "NettleGreen" 317 mX9_isBox 1 := ⟨kd_X9_isBox, (px_in5 185 rfl rfl), (px_in5 186 rfl rfl)⟩
theorem lk_9_320 : px_lkV "NettleGreen" 320 mX8_writeTo 8 2 := ⟨kd_X8_writeTo, (px_in5 188 rfl rfl), (px_in3 202 rfl rfl), (px_in3 203 rfl rfl), by decide, _, _, rfl⟩
theorem lk_9_324 : px_lkV "NettleGreen" 324 mX8_readFrom 8 2 := ⟨kd_X8_readFrom, (px_in5 193 rfl rfl), (px_in4 100 rfl rfl), (px_in4 101 rfl rfl), by decide, _, _, rfl⟩
theorem lk_9_330 : px_lkV "NettleGreen" 330 mX3_undoable 3 0 := ⟨kd_X3_undoable, (px_in5 198 rfl rfl), (px_in5 199 rfl rfl), (px_in5 200 rfl rfl), by decide, _, _, rfl⟩
theorem lk_9_333 : px_lkV "NettleGreen" 333 mX3_redoable 3 0 := ⟨kd_X3_redoable, (px_in5 202 rfl rfl), (px_in5 203 rfl rfl), (px_in5 204 rfl rfl), by decide, _, _, rfl⟩
theorem lk_9_353 : px_lkS "NettleGreen" 353 mJ9_max_7cf53 2 := ⟨kd_J9_max_7cf53, (px_in5 112 rfl rfl), (px_in3 50 rfl rfl)⟩
theorem lk_0_30 : px_lkV "NettleGreen$Circle" 30 mX0_companyOf 0 3 := ⟨kd_X0_companyOf, (px_in4 238 rfl rfl), (px_in4 239 rfl rfl), (px_in5 0 rfl rfl), by decide, _, _, rfl⟩
theorem lk_0_34 : px_lkV "NettleGreen$Circle" 34 mX0_isParted 0 4 := ⟨kd_X0_isParted, (px_in5 2 rfl rfl), (px_in5 4 rfl rfl), (px_inP3 6 rfl rfl), by decide, _, _, rfl⟩
theorem lk_0_38 : px_lkV "NettleGreen$Circle" 38 mX0_isFree 0 3 := ⟨kd_X0_isFree, (px_in5 6 rfl rfl), (px_in5 8 rfl rfl), (px_inP3 7 rfl rfl), by decide, _, _, rfl⟩
theorem lk_1_25 : px_lkV "NettleGreen$Formula" 25 mX1_clear 1 0 := ⟨kd_X1_clear, (px_in1 66 rfl rfl), (px_in1 67 rfl rfl), (px_in1 68 rfl rfl), by decide, _, _, rfl⟩
theorem lk_1_28 : px_lkV "NettleGreen$Formula" 28 mX1_add 1 1 := ⟨kd_X1_add, (px_in1 70 rfl rfl), (px_in1 71 rfl rfl), (px_in1 72 rfl rfl), by decide, _, _, rfl⟩
theorem lk_1_32 : px_lkS "NettleGreen$Formula" 32 mX1_known 5 := ⟨kd_X1_known, (px_in4 20 rfl rfl), (px_in4 21 rfl rfl)⟩
theorem lk_1_36 : px_lkS "NettleGreen$Formula" 36 mX1_joined 3 := ⟨kd_X1_joined, (px_in4 23 rfl rfl), (px_in4 24 rfl rfl)⟩
theorem lk_1_40 : px_lkS "NettleGreen$Formula" 40 mJ9_min_7cf53 2 := ⟨kd_J9_min_7cf53, (px_in4 26 rfl rfl), (px_in3 15 rfl rfl)⟩
theorem lk_1_46 : px_lkS "NettleGreen$Formula" 46 mJ9_max_7cf53 2 := ⟨kd_J9_max_7cf53, (px_in4 27 rfl rfl), (px_in3 50 rfl rfl)⟩
theorem lk_2_41 : px_lkN "NettleGreen$Hamlet" 41 mX1_init 0 := ⟨kd_X1_init, ⟨"NettleGreen", List.mem_filter.mpr ⟨px_t1 _ (List.mem_of_getElem? (i := 37) rfl), rfl⟩⟩, (px_in1 38 rfl rfl), rfl, rfl⟩
theorem lk_2_46 : px_lkV "NettleGreen$Hamlet" 46 mX2_clear 2 0 := ⟨kd_X2_clear, (px_in1 58 rfl rfl), (px_in1 59 rfl rfl), (px_in1 60 rfl rfl), by decide, _, _, rfl⟩
theorem lk_2_68 : px_lkV "NettleGreen$Hamlet" 68 mX1_setUntold 1 0 := ⟨kd_X1_setUntold, (px_in1 62 rfl rfl), (px_in1 63 rfl rfl), (px_in1 64 rfl rfl), by decide, _, _, rfl⟩
theorem lk_2_74 : px_lkV "NettleGreen$Hamlet" 74 mX2_liesAbed 2 2 := ⟨kd_X2_liesAbed, (px_in4 36 rfl rfl), (px_in3 222 rfl rfl), (px_in3 223 rfl rfl), by decide, _, _, rfl⟩
theorem lk_2_82 : px_lkV "NettleGreen$Hamlet" 82 mX8_isForbidden 8 1 := ⟨kd_X8_isForbidden, (px_in4 49 rfl rfl), (px_in3 234 rfl rfl), (px_in3 235 rfl rfl), by decide, _, _, rfl⟩
theorem lk_2_86 : px_lkS "NettleGreen$Hamlet" 86 mJ9_max_7cf53 2 := ⟨kd_J9_max_7cf53, (px_in4 60 rfl rfl), (px_in3 50 rfl rfl)⟩
theorem lk_2_92 : px_lkV "NettleGreen$Hamlet" 92 mX2_takesPlace 2 2 := ⟨kd_X2_takesPlace, (px_in4 45 rfl rfl), (px_in4 46 rfl rfl), (px_in4 47 rfl rfl), by decide, _, _, rfl⟩
theorem lk_2_95 : px_lkV "NettleGreen$Hamlet" 95 mX2_meet 2 3 := ⟨kd_X2_meet, (px_in4 50 rfl rfl), (px_in4 52 rfl rfl), (px_inP2 12 rfl rfl), by decide, _, _, rfl⟩
theorem lk_2_99 : px_lkV "NettleGreen$Hamlet" 99 mX2_coolOne 2 3 := ⟨kd_X2_coolOne, (px_in4 56 rfl rfl), (px_in4 57 rfl rfl), (px_in4 58 rfl rfl), by decide, _, _, rfl⟩
theorem lk_2_102 : px_lkV "NettleGreen$Hamlet" 102 mX2_flare 2 1 := ⟨kd_X2_flare, (px_in4 61 rfl rfl), (px_in4 63 rfl rfl), (px_inP2 13 rfl rfl), by decide, _, _, rfl⟩
theorem lk_2_106 : px_lkV "NettleGreen$Hamlet" 106 mX1_lumpsLeft 1 4 := ⟨kd_X1_lumpsLeft, (px_in4 54 rfl rfl), (px_in4 17 rfl rfl), (px_in4 18 rfl rfl), by decide, _, _, rfl⟩
theorem lk_2_110 : px_lkS "NettleGreen$Hamlet" 110 mJ9_min_7cf53 2 := ⟨kd_J9_min_7cf53, (px_in4 55 rfl rfl), (px_in3 15 rfl rfl)⟩
theorem lk_3_22 : px_lkV "NettleGreen$Ledger" 22 mX8_writeTo 8 2 := ⟨kd_X8_writeTo, (px_in3 201 rfl rfl), (px_in3 202 rfl rfl), (px_in3 203 rfl rfl), by decide, _, _, rfl⟩
theorem lk_3_32 : px_lkV "NettleGreen$Ledger" 32 mX8_readFrom 8 2 := ⟨kd_X8_readFrom, (px_in4 99 rfl rfl), (px_in4 100 rfl rfl), (px_in4 101 rfl rfl), by decide, _, _, rfl⟩
theorem lk_4_11 : px_lkN "NettleGreen$Outlook" 11 mX8_init 0 := ⟨kd_X8_init, ⟨"NettleGreen", List.mem_filter.mpr ⟨px_t2 _ (List.mem_of_getElem? (i := 109) rfl), rfl⟩⟩, (px_in2 52 rfl rfl), rfl, rfl⟩
theorem lk_4_22 : px_lkV "NettleGreen$Outlook" 22 mX8_copyFrom 8 1 := ⟨kd_X8_copyFrom, (px_in4 122 rfl rfl), (px_in4 123 rfl rfl), (px_in4 124 rfl rfl), by decide, _, _, rfl⟩
theorem lk_4_31 : px_lkV "NettleGreen$Outlook" 31 mX2_passDay 2 3 := ⟨kd_X2_passDay, (px_in4 126 rfl rfl), (px_in4 42 rfl rfl), (px_in4 43 rfl rfl), by decide, _, _, rfl⟩
theorem lk_4_38 : px_lkV "NettleGreen$Outlook" 38 mX4_goOn 4 3 := ⟨kd_X4_goOn, (px_in4 135 rfl rfl), (px_in4 137 rfl rfl), (px_inP2 15 rfl rfl), by decide, _, _, rfl⟩
theorem lk_4_45 : px_lkV "NettleGreen$Outlook" 45 mX4_goOnTillAbed 4 3 := ⟨kd_X4_goOnTillAbed, (px_in4 159 rfl rfl), (px_in4 161 rfl rfl), (px_inP3 0 rfl rfl), by decide, _, _, rfl⟩
theorem lk_4_53 : px_lkS "NettleGreen$Outlook" 53 mJ6_bitCount_0f7a4 1 := ⟨kd_J6_bitCount_0f7a4, (px_in4 172 rfl rfl), (px_in4 173 rfl rfl)⟩
theorem lk_4_62 : px_lkV "NettleGreen$Outlook" 62 mX2_allPeople 2 0 := ⟨kd_X2_allPeople, (px_in4 178 rfl rfl), (px_in4 179 rfl rfl), (px_in4 180 rfl rfl), by decide, _, _, rfl⟩
theorem lk_4_75 : px_lkV "NettleGreen$Outlook" 75 mX4_sortFromLeast 4 2 := ⟨kd_X4_sortFromLeast, (px_in4 192 rfl rfl), (px_in4 194 rfl rfl), (px_inP3 1 rfl rfl), by decide, _, _, rfl⟩
theorem lk_4_80 : px_lkS "NettleGreen$Outlook" 80 mJ9_min_7cf53 2 := ⟨kd_J9_min_7cf53, (px_in4 201 rfl rfl), (px_in3 15 rfl rfl)⟩
theorem lk_4_86 : px_lkV "NettleGreen$Outlook" 86 mX4_turnToNextOrder 4 2 := ⟨kd_X4_turnToNextOrder, (px_in4 202 rfl rfl), (px_in4 204 rfl rfl), (px_inP3 3 rfl rfl), by decide, _, _, rfl⟩
theorem lk_4_96 : px_lkV "NettleGreen$Outlook" 96 mX4_weigh 4 2 := ⟨kd_X4_weigh, (px_in4 222 rfl rfl), (px_in4 224 rfl rfl), (px_inP3 4 rfl rfl), by decide, _, _, rfl⟩
theorem lk_4_105 : px_lkV "NettleGreen$Outlook" 105 mX2_coolOne 2 3 := ⟨kd_X2_coolOne, (px_in5 58 rfl rfl), (px_in4 57 rfl rfl), (px_in4 58 rfl rfl), by decide, _, _, rfl⟩
theorem lk_4_109 : px_lkS "NettleGreen$Outlook" 109 mJ7_fill_53178 2 := ⟨kd_J7_fill_53178, (px_in5 94 rfl rfl), (px_in5 95 rfl rfl)⟩
theorem lk_4_115 : px_lkV "NettleGreen$Outlook" 115 mX2_allFirm 2 1 := ⟨kd_X2_allFirm, (px_in5 26 rfl rfl), (px_in5 27 rfl rfl), (px_in5 28 rfl rfl), by decide, _, _, rfl⟩
theorem lk_4_119 : px_lkS "NettleGreen$Outlook" 119 mX4_worth 6 := ⟨kd_X4_worth, (px_in5 38 rfl rfl), (px_in5 39 rfl rfl)⟩
theorem lk_4_130 : px_lkV "NettleGreen$Outlook" 130 mX1_lumpsLeft 1 4 := ⟨kd_X1_lumpsLeft, (px_in5 41 rfl rfl), (px_in4 17 rfl rfl), (px_in4 18 rfl rfl), by decide, _, _, rfl⟩
theorem lk_4_136 : px_lkV "NettleGreen$Outlook" 136 mX2_allLumps 2 1 := ⟨kd_X2_allLumps, (px_in4 139 rfl rfl), (px_in4 140 rfl rfl), (px_in4 141 rfl rfl), by decide, _, _, rfl⟩
theorem lk_4_139 : px_lkV "NettleGreen$Outlook" 139 mX2_abedBits 2 1 := ⟨kd_X2_abedBits, (px_in4 163 rfl rfl), (px_in4 33 rfl rfl), (px_in4 34 rfl rfl), by decide, _, _, rfl⟩
theorem lk_4_145 : px_lkV "NettleGreen$Outlook" 145 mX4_swapTried 4 2 := ⟨kd_X4_swapTried, (px_in4 196 rfl rfl), (px_in4 198 rfl rfl), (px_inP3 2 rfl rfl), by decide, _, _, rfl⟩
theorem lk_5_11 : px_lkI "NettleGreen$Parser" 11 mX6_init 0 := ⟨kd_X6_init, (px_in1 176 rfl rfl), (px_in1 177 rfl rfl), rfl, rfl⟩
theorem lk_5_27 : px_lkI "NettleGreen$Parser" 27 mX2_init 0 := ⟨kd_X2_init, (px_in2 24 rfl rfl), (px_in1 32 rfl rfl), rfl, rfl⟩
theorem lk_5_32 : px_lkV "NettleGreen$Parser" 32 mX2_clear 2 0 := ⟨kd_X2_clear, (px_in3 9 rfl rfl), (px_in1 59 rfl rfl), (px_in1 60 rfl rfl), by decide, _, _, rfl⟩
theorem lk_5_45 : px_lkV "NettleGreen$Parser" 45 mX6_begin 6 2 := ⟨kd_X6_begin, (px_in3 10 rfl rfl), (px_in3 11 rfl rfl), (px_in3 12 rfl rfl), by decide, _, _, rfl⟩
theorem lk_5_52 : px_lkV "NettleGreen$Parser" 52 mX5_readLine 5 0 := ⟨kd_X5_readLine, (px_in3 91 rfl rfl), (px_in3 93 rfl rfl), (px_inP1 4 rfl rfl), by decide, _, _, rfl⟩
theorem lk_5_56 : px_lkV "NettleGreen$Parser" 56 mX5_refuse 5 0 := ⟨kd_X5_refuse, (px_in3 95 rfl rfl), (px_in3 97 rfl rfl), (px_inP1 5 rfl rfl), by decide, _, _, rfl⟩
theorem lk_5_62 : px_lkV "NettleGreen$Parser" 62 mX5_readPerson 5 0 := ⟨kd_X5_readPerson, (px_in3 103 rfl rfl), (px_in3 105 rfl rfl), (px_inP1 7 rfl rfl), by decide, _, _, rfl⟩
theorem lk_5_65 : px_lkV "NettleGreen$Parser" 65 mX5_readMeeting 5 0 := ⟨kd_X5_readMeeting, (px_in3 136 rfl rfl), (px_in3 138 rfl rfl), (px_inP1 13 rfl rfl), by decide, _, _, rfl⟩
theorem lk_5_68 : px_lkV "NettleGreen$Parser" 68 mX5_readBrother 5 0 := ⟨kd_X5_readBrother, (px_in3 144 rfl rfl), (px_in3 146 rfl rfl), (px_inP1 15 rfl rfl), by decide, _, _, rfl⟩
theorem lk_5_71 : px_lkV "NettleGreen$Parser" 71 mX5_readFormula 5 0 := ⟨kd_X5_readFormula, (px_in3 152 rfl rfl), (px_in3 154 rfl rfl), (px_inP2 1 rfl rfl), by decide, _, _, rfl⟩
theorem lk_5_74 : px_lkV "NettleGreen$Parser" 74 mX5_readSetting 5 3 := ⟨kd_X5_readSetting, (px_in3 182 rfl rfl), (px_in3 184 rfl rfl), (px_inP2 8 rfl rfl), by decide, _, _, rfl⟩
theorem lk_5_90 : px_lkV "NettleGreen$Parser" 90 mX6_advance 6 0 := ⟨kd_X6_advance, (px_in3 107 rfl rfl), (px_in3 18 rfl rfl), (px_in3 19 rfl rfl), by decide, _, _, rfl⟩
theorem lk_5_93 : px_lkV "NettleGreen$Parser" 93 mX5_readNewName 5 2 := ⟨kd_X5_readNewName, (px_in3 108 rfl rfl), (px_in3 110 rfl rfl), (px_inP1 8 rfl rfl), by decide, _, _, rfl⟩
theorem lk_5_101 : px_lkV "NettleGreen$Parser" 101 mX5_readNumberBehind 5 3 := ⟨kd_X5_readNumberBehind, (px_in3 116 rfl rfl), (px_in3 118 rfl rfl), (px_inP1 10 rfl rfl), by decide, _, _, rfl⟩
theorem lk_5_107 : px_lkV "NettleGreen$Parser" 107 mX6_isKeyword 6 1 := ⟨kd_X6_isKeyword, (px_in3 124 rfl rfl), (px_in3 125 rfl rfl), (px_in3 126 rfl rfl), by decide, _, _, rfl⟩
theorem lk_5_114 : px_lkV "NettleGreen$Parser" 114 mX5_readLineEnd 5 0 := ⟨kd_X5_readLineEnd, (px_in3 128 rfl rfl), (px_in3 130 rfl rfl), (px_inP1 12 rfl rfl), by decide, _, _, rfl⟩
theorem lk_5_120 : px_lkV "NettleGreen$Parser" 120 mX5_readPersonNotIn 5 1 := ⟨kd_X5_readPersonNotIn, (px_in3 140 rfl rfl), (px_in3 142 rfl rfl), (px_inP1 14 rfl rfl), by decide, _, _, rfl⟩
theorem lk_5_139 : px_lkV "NettleGreen$Parser" 139 mX5_readKeyword 5 1 := ⟨kd_X5_readKeyword, (px_in3 120 rfl rfl), (px_in3 122 rfl rfl), (px_inP1 11 rfl rfl), by decide, _, _, rfl⟩
theorem lk_5_142 : px_lkV "NettleGreen$Parser" 142 mX5_readRound 5 1 := ⟨kd_X5_readRound, (px_in3 148 rfl rfl), (px_in3 150 rfl rfl), (px_inP2 0 rfl rfl), by decide, _, _, rfl⟩
theorem lk_5_151 : px_lkV "NettleGreen$Parser" 151 mX5_isFirstTime 5 1 := ⟨kd_X5_isFirstTime, (px_in3 156 rfl rfl), (px_in3 158 rfl rfl), (px_inP2 2 rfl rfl), by decide, _, _, rfl⟩
theorem lk_5_158 : px_lkV "NettleGreen$Parser" 158 mX1_clear 1 0 := ⟨kd_X1_clear, (px_in3 160 rfl rfl), (px_in1 67 rfl rfl), (px_in1 68 rfl rfl), by decide, _, _, rfl⟩
theorem lk_5_161 : px_lkV "NettleGreen$Parser" 161 mX5_readChain 5 2 := ⟨kd_X5_readChain, (px_in3 161 rfl rfl), (px_in3 163 rfl rfl), (px_inP2 3 rfl rfl), by decide, _, _, rfl⟩
theorem lk_5_165 : px_lkV "NettleGreen$Parser" 165 mX5_readUnit 5 1 := ⟨kd_X5_readUnit, (px_in3 165 rfl rfl), (px_in3 167 rfl rfl), (px_inP2 4 rfl rfl), by decide, _, _, rfl⟩
theorem lk_5_168 : px_lkV "NettleGreen$Parser" 168 mX5_readNot 5 1 := ⟨kd_X5_readNot, (px_in3 174 rfl rfl), (px_in3 176 rfl rfl), (px_inP2 6 rfl rfl), by decide, _, _, rfl⟩
theorem lk_5_171 : px_lkV "NettleGreen$Parser" 171 mX5_operatorAt 5 1 := ⟨kd_X5_operatorAt, (px_in3 178 rfl rfl), (px_in3 180 rfl rfl), (px_inP2 7 rfl rfl), by decide, _, _, rfl⟩
theorem lk_5_174 : px_lkV "NettleGreen$Parser" 174 mX1_add 1 1 := ⟨kd_X1_add, (px_in3 173 rfl rfl), (px_in1 71 rfl rfl), (px_in1 72 rfl rfl), by decide, _, _, rfl⟩
theorem lk_5_178 : px_lkV "NettleGreen$Parser" 178 mX6_isSign 6 1 := ⟨kd_X6_isSign, (px_in3 132 rfl rfl), (px_in3 133 rfl rfl), (px_in3 134 rfl rfl), by decide, _, _, rfl⟩
theorem lk_5_182 : px_lkV "NettleGreen$Parser" 182 mX5_unitAt 5 0 := ⟨kd_X5_unitAt, (px_in3 169 rfl rfl), (px_in3 171 rfl rfl), (px_inP2 5 rfl rfl), by decide, _, _, rfl⟩
theorem lk_5_189 : px_lkV "NettleGreen$Parser" 189 mX5_indexOf 5 2 := ⟨kd_X5_indexOf, (px_in3 112 rfl rfl), (px_in3 114 rfl rfl), (px_inP1 9 rfl rfl), by decide, _, _, rfl⟩
theorem lk_5_193 : px_lkV "NettleGreen$Parser" 193 mX5_setFault 5 1 := ⟨kd_X5_setFault, (px_in3 99 rfl rfl), (px_in3 101 rfl rfl), (px_inP1 6 rfl rfl), by decide, _, _, rfl⟩
theorem lk_6_29 : px_lkS "NettleGreen$Scanner" 29 mX6_spelledOn 2 := ⟨kd_X6_spelledOn, (px_in1 229 rfl rfl), (px_in1 230 rfl rfl)⟩
theorem lk_6_33 : px_lkS "NettleGreen$Scanner" 33 mJ9_min_7cf53 2 := ⟨kd_J9_min_7cf53, (px_in3 14 rfl rfl), (px_in3 15 rfl rfl)⟩
theorem lk_6_45 : px_lkV "NettleGreen$Scanner" 45 mX6_advance 6 0 := ⟨kd_X6_advance, (px_in3 17 rfl rfl), (px_in3 18 rfl rfl), (px_in3 19 rfl rfl), by decide, _, _, rfl⟩
theorem lk_6_55 : px_lkV "NettleGreen$Scanner" 55 mX6_takeWord 6 0 := ⟨kd_X6_takeWord, (px_in3 21 rfl rfl), (px_in3 23 rfl rfl), (px_inP1 1 rfl rfl), by decide, _, _, rfl⟩
theorem lk_6_61 : px_lkV "NettleGreen$Scanner" 61 mX6_takeNumber 6 0 := ⟨kd_X6_takeNumber, (px_in3 25 rfl rfl), (px_in3 27 rfl rfl), (px_inP1 2 rfl rfl), by decide, _, _, rfl⟩
theorem lk_6_64 : px_lkV "NettleGreen$Scanner" 64 mX6_takeSignOrEnd 6 0 := ⟨kd_X6_takeSignOrEnd, (px_in3 29 rfl rfl), (px_in3 31 rfl rfl), (px_inP1 3 rfl rfl), by decide, _, _, rfl⟩
theorem lk_7_40 : px_lkN "NettleGreen$Sightings" 40 mX8_init 0 := ⟨kd_X8_init, ⟨"NettleGreen", List.mem_filter.mpr ⟨px_t2 _ (List.mem_of_getElem? (i := 142) rfl), rfl⟩⟩, (px_in2 52 rfl rfl), rfl, rfl⟩
theorem lk_7_62 : px_lkV "NettleGreen$Sightings" 62 mX7_fillChart 7 1 := ⟨kd_X7_fillChart, (px_in5 150 rfl rfl), (px_in5 152 rfl rfl), (px_inP3 9 rfl rfl), by decide, _, _, rfl⟩
theorem lk_7_66 : px_lkV "NettleGreen$Sightings" 66 mX7_agrees 7 2 := ⟨kd_X7_agrees, (px_in5 159 rfl rfl), (px_in5 161 rfl rfl), (px_inP3 10 rfl rfl), by decide, _, _, rfl⟩
theorem lk_7_70 : px_lkS "NettleGreen$Sightings" 70 mJ7_fill_53178 2 := ⟨kd_J7_fill_53178, (px_in5 179 rfl rfl), (px_in5 95 rfl rfl)⟩
theorem lk_7_76 : px_lkS "NettleGreen$Sightings" 76 mX7_cell 3 := ⟨kd_X7_cell, (px_in5 155 rfl rfl), (px_in5 156 rfl rfl)⟩
theorem lk_7_80 : px_lkS "NettleGreen$Sightings" 80 mJ9_max_7cf53 2 := ⟨kd_J9_max_7cf53, (px_in5 180 rfl rfl), (px_in3 50 rfl rfl)⟩
theorem lk_7_86 : px_lkV "NettleGreen$Sightings" 86 mX7_countsAt 7 2 := ⟨kd_X7_countsAt, (px_in5 163 rfl rfl), (px_in5 165 rfl rfl), (px_inP3 11 rfl rfl), by decide, _, _, rfl⟩
theorem lk_7_89 : px_lkV "NettleGreen$Sightings" 89 mX8_setAsTold 8 1 := ⟨kd_X8_setAsTold, (px_in5 154 rfl rfl), (px_in3 191 rfl rfl), (px_in3 192 rfl rfl), by decide, _, _, rfl⟩
theorem lk_7_101 : px_lkV "NettleGreen$Sightings" 101 mX2_passDay 2 3 := ⟨kd_X2_passDay, (px_in5 158 rfl rfl), (px_in4 42 rfl rfl), (px_in4 43 rfl rfl), by decide, _, _, rfl⟩
theorem lk_L_9 : px_lkI "NettleGreenLaw" 9 mX9_init 0 := ⟨kd_X9_init, (px_in1 23 rfl rfl), (px_in1 24 rfl rfl), rfl, rfl⟩
theorem lk_L_12 : px_lkI "NettleGreenLaw" 12 mX10_init 0 := ⟨kd_X10_init, (px_in5 208 rfl rfl), (px_in5 209 rfl rfl), rfl, rfl⟩
theorem lk_L_13 : px_lkV "NettleGreenLaw" 13 mX9_feed 9 5 := ⟨kd_X9_feed, (px_in2 229 rfl rfl), (px_in2 230 rfl rfl), (px_in2 231 rfl rfl), by decide, _, _, rfl⟩
theorem lk_L_17 : px_lkV "NettleGreenLaw" 17 mX10_feed 10 5 := ⟨kd_X10_feed, (px_in6 228 rfl rfl), (px_in6 229 rfl rfl), (px_in6 230 rfl rfl), by decide, _, _, rfl⟩
theorem lk_L_18 : px_lkV "NettleGreenLaw" 18 mX9_end 9 1 := ⟨kd_X9_end, (px_in2 237 rfl rfl), (px_in2 238 rfl rfl), (px_in2 239 rfl rfl), by decide, _, _, rfl⟩
theorem lk_L_22 : px_lkV "NettleGreenLaw" 22 mX10_end 10 1 := ⟨kd_X10_end, (px_in6 236 rfl rfl), (px_in6 237 rfl rfl), (px_in6 238 rfl rfl), by decide, _, _, rfl⟩
theorem lk_L_23 : px_lkV "NettleGreenLaw" 23 mX9_hamlet 9 0 := ⟨kd_X9_hamlet, (px_in3 1 rfl rfl), (px_in3 2 rfl rfl), (px_in3 3 rfl rfl), by decide, _, _, rfl⟩
theorem lk_L_27 : px_lkV "NettleGreenLaw" 27 mX10_hamlet 10 0 := ⟨kd_X10_hamlet, (px_in7 0 rfl rfl), (px_in7 1 rfl rfl), (px_in7 2 rfl rfl), by decide, _, _, rfl⟩
theorem lk_L_28 : px_lkV "NettleGreenLaw" 28 mX9_fault 9 1 := ⟨kd_X9_fault, (px_in3 209 rfl rfl), (px_in3 210 rfl rfl), (px_in3 211 rfl rfl), by decide, _, _, rfl⟩
theorem lk_L_31 : px_lkV "NettleGreenLaw" 31 mX10_fault 10 1 := ⟨kd_X10_fault, (px_in7 168 rfl rfl), (px_in7 169 rfl rfl), (px_in7 170 rfl rfl), by decide, _, _, rfl⟩
theorem lk_L_32 : px_lkV "NettleGreenLaw" 32 mX9_person 9 2 := ⟨kd_X9_person, (px_in3 213 rfl rfl), (px_in3 214 rfl rfl), (px_in3 215 rfl rfl), by decide, _, _, rfl⟩
theorem lk_L_36 : px_lkV "NettleGreenLaw" 36 mX10_person 10 2 := ⟨kd_X10_person, (px_in7 172 rfl rfl), (px_in7 173 rfl rfl), (px_in7 174 rfl rfl), by decide, _, _, rfl⟩
theorem lk_L_37 : px_lkV "NettleGreenLaw" 37 mX9_meeting 9 2 := ⟨kd_X9_meeting, (px_in3 225 rfl rfl), (px_in3 226 rfl rfl), (px_in3 227 rfl rfl), by decide, _, _, rfl⟩
theorem lk_L_40 : px_lkV "NettleGreenLaw" 40 mX10_meeting 10 2 := ⟨kd_X10_meeting, (px_in7 194 rfl rfl), (px_in7 195 rfl rfl), (px_in7 196 rfl rfl), by decide, _, _, rfl⟩
theorem lk_L_41 : px_lkV "NettleGreenLaw" 41 mX9_brother 9 2 := ⟨kd_X9_brother, (px_in3 237 rfl rfl), (px_in3 238 rfl rfl), (px_in3 239 rfl rfl), by decide, _, _, rfl⟩
theorem lk_L_44 : px_lkV "NettleGreenLaw" 44 mX10_brother 10 2 := ⟨kd_X10_brother, (px_in7 202 rfl rfl), (px_in7 203 rfl rfl), (px_in7 204 rfl rfl), by decide, _, _, rfl⟩
theorem lk_L_45 : px_lkV "NettleGreenLaw" 45 mX9_round 9 2 := ⟨kd_X9_round, (px_in4 5 rfl rfl), (px_in4 6 rfl rfl), (px_in4 7 rfl rfl), by decide, _, _, rfl⟩
theorem lk_L_48 : px_lkV "NettleGreenLaw" 48 mX10_round 10 2 := ⟨kd_X10_round, (px_in7 210 rfl rfl), (px_in7 211 rfl rfl), (px_in7 212 rfl rfl), by decide, _, _, rfl⟩
theorem lk_L_49 : px_lkV "NettleGreenLaw" 49 mX9_touch 9 2 := ⟨kd_X9_touch, (px_in4 9 rfl rfl), (px_in4 10 rfl rfl), (px_in4 11 rfl rfl), by decide, _, _, rfl⟩
theorem lk_L_52 : px_lkV "NettleGreenLaw" 52 mX10_touch 10 2 := ⟨kd_X10_touch, (px_in7 214 rfl rfl), (px_in7 215 rfl rfl), (px_in7 216 rfl rfl), by decide, _, _, rfl⟩
theorem lk_L_53 : px_lkV "NettleGreenLaw" 53 mX9_abed 9 0 := ⟨kd_X9_abed, (px_in4 28 rfl rfl), (px_in4 29 rfl rfl), (px_in4 30 rfl rfl), by decide, _, _, rfl⟩
theorem lk_L_56 : px_lkV "NettleGreenLaw" 56 mX10_abed 10 0 := ⟨kd_X10_abed, (px_in7 228 rfl rfl), (px_in7 229 rfl rfl), (px_in7 230 rfl rfl), by decide, _, _, rfl⟩
theorem lk_L_57 : px_lkV "NettleGreenLaw" 57 mX9_day 9 0 := ⟨kd_X9_day, (px_in4 37 rfl rfl), (px_in4 38 rfl rfl), (px_in4 39 rfl rfl), by decide, _, _, rfl⟩
theorem lk_L_60 : px_lkV "NettleGreenLaw" 60 mX10_day 10 0 := ⟨kd_X10_day, (px_in7 236 rfl rfl), (px_in7 237 rfl rfl), (px_in7 238 rfl rfl), by decide, _, _, rfl⟩
theorem lk_L_61 : px_lkV "NettleGreenLaw" 61 mX9_lesson 9 1 := ⟨kd_X9_lesson, (px_in4 70 rfl rfl), (px_in4 71 rfl rfl), (px_in4 72 rfl rfl), by decide, _, _, rfl⟩
theorem lk_L_64 : px_lkV "NettleGreenLaw" 64 mX10_lesson 10 1 := ⟨kd_X10_lesson, (px_in8 42 rfl rfl), (px_in8 43 rfl rfl), (px_in8 44 rfl rfl), by decide, _, _, rfl⟩
theorem lk_L_65 : px_lkV "NettleGreenLaw" 65 mX9_forbid 9 1 := ⟨kd_X9_forbid, (px_in4 74 rfl rfl), (px_in4 75 rfl rfl), (px_in4 76 rfl rfl), by decide, _, _, rfl⟩
theorem lk_L_68 : px_lkV "NettleGreenLaw" 68 mX10_forbid 10 1 := ⟨kd_X10_forbid, (px_in8 46 rfl rfl), (px_in8 47 rfl rfl), (px_in8 48 rfl rfl), by decide, _, _, rfl⟩
theorem lk_L_69 : px_lkV "NettleGreenLaw" 69 mX9_allow 9 1 := ⟨kd_X9_allow, (px_in4 82 rfl rfl), (px_in4 83 rfl rfl), (px_in4 84 rfl rfl), by decide, _, _, rfl⟩
theorem lk_L_72 : px_lkV "NettleGreenLaw" 72 mX10_allow 10 1 := ⟨kd_X10_allow, (px_in8 58 rfl rfl), (px_in8 59 rfl rfl), (px_in8 60 rfl rfl), by decide, _, _, rfl⟩
theorem lk_L_73 : px_lkV "NettleGreenLaw" 73 mX9_call 9 2 := ⟨kd_X9_call, (px_in4 86 rfl rfl), (px_in4 87 rfl rfl), (px_in4 88 rfl rfl), by decide, _, _, rfl⟩
theorem lk_L_76 : px_lkV "NettleGreenLaw" 76 mX10_call 10 2 := ⟨kd_X10_call, (px_in8 62 rfl rfl), (px_in8 63 rfl rfl), (px_in8 64 rfl rfl), by decide, _, _, rfl⟩
theorem lk_L_77 : px_lkV "NettleGreenLaw" 77 mX9_undo 9 0 := ⟨kd_X9_undo, (px_in4 91 rfl rfl), (px_in4 92 rfl rfl), (px_in4 93 rfl rfl), by decide, _, _, rfl⟩
theorem lk_L_81 : px_lkV "NettleGreenLaw" 81 mX10_undo 10 0 := ⟨kd_X10_undo, (px_in8 66 rfl rfl), (px_in8 67 rfl rfl), (px_in8 68 rfl rfl), by decide, _, _, rfl⟩
theorem lk_L_82 : px_lkV "NettleGreenLaw" 82 mX9_redo 9 0 := ⟨kd_X9_redo, (px_in4 103 rfl rfl), (px_in4 104 rfl rfl), (px_in4 105 rfl rfl), by decide, _, _, rfl⟩
theorem lk_L_85 : px_lkV "NettleGreenLaw" 85 mX10_redo 10 0 := ⟨kd_X10_redo, (px_in8 74 rfl rfl), (px_in8 75 rfl rfl), (px_in8 76 rfl rfl), by decide, _, _, rfl⟩
theorem lk_L_86 : px_lkV "NettleGreenLaw" 86 mX9_will 9 3 := ⟨kd_X9_will, (px_in4 111 rfl rfl), (px_in4 112 rfl rfl), (px_in4 113 rfl rfl), by decide, _, _, rfl⟩
theorem lk_L_90 : px_lkV "NettleGreenLaw" 90 mX10_will 10 3 := ⟨kd_X10_will, (px_in8 78 rfl rfl), (px_in8 79 rfl rfl), (px_in8 80 rfl rfl), by decide, _, _, rfl⟩
theorem lk_L_91 : px_lkV "NettleGreenLaw" 91 mX9_firm 9 2 := ⟨kd_X9_firm, (px_in4 127 rfl rfl), (px_in4 128 rfl rfl), (px_in4 129 rfl rfl), by decide, _, _, rfl⟩
theorem lk_L_94 : px_lkV "NettleGreenLaw" 94 mX10_firm 10 2 := ⟨kd_X10_firm, (px_in8 82 rfl rfl), (px_in8 83 rfl rfl), (px_in8 84 rfl rfl), by decide, _, _, rfl⟩
theorem lk_L_95 : px_lkV "NettleGreenLaw" 95 mX9_hurt 9 1 := ⟨kd_X9_hurt, (px_in4 143 rfl rfl), (px_in4 144 rfl rfl), (px_in4 145 rfl rfl), by decide, _, _, rfl⟩
theorem lk_L_98 : px_lkV "NettleGreenLaw" 98 mX10_hurt 10 1 := ⟨kd_X10_hurt, (px_in8 86 rfl rfl), (px_in8 87 rfl rfl), (px_in8 88 rfl rfl), by decide, _, _, rfl⟩
theorem lk_L_99 : px_lkV "NettleGreenLaw" 99 mX9_felled 9 1 := ⟨kd_X9_felled, (px_in4 151 rfl rfl), (px_in4 152 rfl rfl), (px_in4 153 rfl rfl), by decide, _, _, rfl⟩
theorem lk_L_102 : px_lkV "NettleGreenLaw" 102 mX10_felled 10 1 := ⟨kd_X10_felled, (px_in8 94 rfl rfl), (px_in8 95 rfl rfl), (px_in8 96 rfl rfl), by decide, _, _, rfl⟩
theorem lk_L_103 : px_lkV "NettleGreenLaw" 103 mX9_peace 9 2 := ⟨kd_X9_peace, (px_in4 164 rfl rfl), (px_in4 165 rfl rfl), (px_in4 166 rfl rfl), by decide, _, _, rfl⟩
theorem lk_L_106 : px_lkV "NettleGreenLaw" 106 mX10_peace 10 2 := ⟨kd_X10_peace, (px_in8 98 rfl rfl), (px_in8 99 rfl rfl), (px_in8 100 rfl rfl), by decide, _, _, rfl⟩
theorem lk_L_107 : px_lkV "NettleGreenLaw" 107 mX9_rounds 9 2 := ⟨kd_X9_rounds, (px_in4 183 rfl rfl), (px_in4 184 rfl rfl), (px_in4 185 rfl rfl), by decide, _, _, rfl⟩
theorem lk_L_110 : px_lkV "NettleGreenLaw" 110 mX10_rounds 10 2 := ⟨kd_X10_rounds, (px_in8 109 rfl rfl), (px_in8 110 rfl rfl), (px_in8 111 rfl rfl), by decide, _, _, rfl⟩
theorem lk_L_111 : px_lkV "NettleGreenLaw" 111 mX9_grip 9 2 := ⟨kd_X9_grip, (px_in4 206 rfl rfl), (px_in4 207 rfl rfl), (px_in4 208 rfl rfl), by decide, _, _, rfl⟩
theorem lk_L_114 : px_lkV "NettleGreenLaw" 114 mX10_grip 10 2 := ⟨kd_X10_grip, (px_in8 126 rfl rfl), (px_in8 127 rfl rfl), (px_in8 128 rfl rfl), by decide, _, _, rfl⟩
theorem lk_L_115 : px_lkV "NettleGreenLaw" 115 mX9_pupil 9 2 := ⟨kd_X9_pupil, (px_in4 214 rfl rfl), (px_in4 215 rfl rfl), (px_in4 216 rfl rfl), by decide, _, _, rfl⟩
theorem lk_L_118 : px_lkV "NettleGreenLaw" 118 mX10_pupil 10 2 := ⟨kd_X10_pupil, (px_in8 130 rfl rfl), (px_in8 131 rfl rfl), (px_in8 132 rfl rfl), by decide, _, _, rfl⟩
theorem lk_L_119 : px_lkV "NettleGreenLaw" 119 mX9_evenings 9 0 := ⟨kd_X9_evenings, (px_in4 230 rfl rfl), (px_in4 231 rfl rfl), (px_in4 232 rfl rfl), by decide, _, _, rfl⟩
theorem lk_L_122 : px_lkV "NettleGreenLaw" 122 mX10_evenings 10 0 := ⟨kd_X10_evenings, (px_in8 142 rfl rfl), (px_in8 143 rfl rfl), (px_in8 144 rfl rfl), by decide, _, _, rfl⟩
theorem lk_L_123 : px_lkV "NettleGreenLaw" 123 mX9_rumour 9 2 := ⟨kd_X9_rumour, (px_in5 10 rfl rfl), (px_in5 11 rfl rfl), (px_in5 12 rfl rfl), by decide, _, _, rfl⟩
theorem lk_L_126 : px_lkV "NettleGreenLaw" 126 mX10_rumour 10 2 := ⟨kd_X10_rumour, (px_in8 157 rfl rfl), (px_in8 158 rfl rfl), (px_in8 159 rfl rfl), by decide, _, _, rfl⟩
theorem lk_L_127 : px_lkV "NettleGreenLaw" 127 mX9_manners 9 0 := ⟨kd_X9_manners, (px_in5 18 rfl rfl), (px_in5 19 rfl rfl), (px_in5 20 rfl rfl), by decide, _, _, rfl⟩
theorem lk_L_130 : px_lkV "NettleGreenLaw" 130 mX10_manners 10 0 := ⟨kd_X10_manners, (px_in8 161 rfl rfl), (px_in8 162 rfl rfl), (px_in8 163 rfl rfl), by decide, _, _, rfl⟩
theorem lk_L_131 : px_lkV "NettleGreenLaw" 131 mX9_duel 9 1 := ⟨kd_X9_duel, (px_in5 30 rfl rfl), (px_in5 31 rfl rfl), (px_in5 32 rfl rfl), by decide, _, _, rfl⟩
theorem lk_L_134 : px_lkV "NettleGreenLaw" 134 mX10_duel 10 1 := ⟨kd_X10_duel, (px_in8 165 rfl rfl), (px_in8 166 rfl rfl), (px_in8 167 rfl rfl), by decide, _, _, rfl⟩
theorem lk_L_135 : px_lkV "NettleGreenLaw" 135 mX9_scourge 9 1 := ⟨kd_X9_scourge, (px_in5 42 rfl rfl), (px_in5 43 rfl rfl), (px_in5 44 rfl rfl), by decide, _, _, rfl⟩
theorem lk_L_138 : px_lkV "NettleGreenLaw" 138 mX10_scourge 10 1 := ⟨kd_X10_scourge, (px_in8 169 rfl rfl), (px_in8 170 rfl rfl), (px_in8 171 rfl rfl), by decide, _, _, rfl⟩
theorem lk_L_139 : px_lkV "NettleGreenLaw" 139 mX9_relief 9 2 := ⟨kd_X9_relief, (px_in5 50 rfl rfl), (px_in5 51 rfl rfl), (px_in5 52 rfl rfl), by decide, _, _, rfl⟩
theorem lk_L_142 : px_lkV "NettleGreenLaw" 142 mX10_relief 10 2 := ⟨kd_X10_relief, (px_in8 177 rfl rfl), (px_in8 178 rfl rfl), (px_in8 179 rfl rfl), by decide, _, _, rfl⟩
theorem lk_L_143 : px_lkV "NettleGreenLaw" 143 mX9_sorest 9 0 := ⟨kd_X9_sorest, (px_in5 59 rfl rfl), (px_in5 60 rfl rfl), (px_in5 61 rfl rfl), by decide, _, _, rfl⟩
theorem lk_L_146 : px_lkV "NettleGreenLaw" 146 mX10_sorest 10 0 := ⟨kd_X10_sorest, (px_in8 181 rfl rfl), (px_in8 182 rfl rfl), (px_in8 183 rfl rfl), by decide, _, _, rfl⟩
theorem lk_L_147 : px_lkV "NettleGreenLaw" 147 mX9_firmest 9 0 := ⟨kd_X9_firmest, (px_in5 67 rfl rfl), (px_in5 68 rfl rfl), (px_in5 69 rfl rfl), by decide, _, _, rfl⟩
theorem lk_L_150 : px_lkV "NettleGreenLaw" 150 mX10_firmest 10 0 := ⟨kd_X10_firmest, (px_in8 189 rfl rfl), (px_in8 190 rfl rfl), (px_in8 191 rfl rfl), by decide, _, _, rfl⟩
theorem lk_L_151 : px_lkV "NettleGreenLaw" 151 mX9_due 9 0 := ⟨kd_X9_due, (px_in5 71 rfl rfl), (px_in5 72 rfl rfl), (px_in5 73 rfl rfl), by decide, _, _, rfl⟩
theorem lk_L_154 : px_lkV "NettleGreenLaw" 154 mX10_due 10 0 := ⟨kd_X10_due, (px_in8 193 rfl rfl), (px_in8 194 rfl rfl), (px_in8 195 rfl rfl), by decide, _, _, rfl⟩
theorem lk_L_155 : px_lkV "NettleGreenLaw" 155 mX9_friends 9 1 := ⟨kd_X9_friends, (px_in5 76 rfl rfl), (px_in5 77 rfl rfl), (px_in5 78 rfl rfl), by decide, _, _, rfl⟩
theorem lk_L_158 : px_lkV "NettleGreenLaw" 158 mX10_friends 10 1 := ⟨kd_X10_friends, (px_in8 134 rfl rfl), (px_in8 135 rfl rfl), (px_in8 136 rfl rfl), by decide, _, _, rfl⟩
theorem lk_L_159 : px_lkV "NettleGreenLaw" 159 mX9_uncared 9 0 := ⟨kd_X9_uncared, (px_in5 81 rfl rfl), (px_in5 82 rfl rfl), (px_in5 83 rfl rfl), by decide, _, _, rfl⟩
theorem lk_L_162 : px_lkV "NettleGreenLaw" 162 mX10_uncared 10 0 := ⟨kd_X10_uncared, (px_in8 197 rfl rfl), (px_in8 198 rfl rfl), (px_in8 199 rfl rfl), by decide, _, _, rfl⟩
theorem lk_L_163 : px_lkV "NettleGreenLaw" 163 mX9_law 9 1 := ⟨kd_X9_law, (px_in5 86 rfl rfl), (px_in5 87 rfl rfl), (px_in5 88 rfl rfl), by decide, _, _, rfl⟩
theorem lk_L_166 : px_lkV "NettleGreenLaw" 166 mX10_law 10 1 := ⟨kd_X10_law, (px_in8 201 rfl rfl), (px_in8 202 rfl rfl), (px_in8 203 rfl rfl), by decide, _, _, rfl⟩
theorem lk_L_167 : px_lkV "NettleGreenLaw" 167 mX9_next 9 1 := ⟨kd_X9_next, (px_in5 97 rfl rfl), (px_in5 98 rfl rfl), (px_in5 99 rfl rfl), by decide, _, _, rfl⟩
theorem lk_L_170 : px_lkV "NettleGreenLaw" 170 mX10_next 10 1 := ⟨kd_X10_next, (px_in8 205 rfl rfl), (px_in8 206 rfl rfl), (px_in8 207 rfl rfl), by decide, _, _, rfl⟩
theorem lk_L_171 : px_lkV "NettleGreenLaw" 171 mX9_odds 9 2 := ⟨kd_X9_odds, (px_in5 105 rfl rfl), (px_in5 106 rfl rfl), (px_in5 107 rfl rfl), by decide, _, _, rfl⟩
theorem lk_L_174 : px_lkV "NettleGreenLaw" 174 mX10_odds 10 2 := ⟨kd_X10_odds, (px_in8 209 rfl rfl), (px_in8 210 rfl rfl), (px_in8 211 rfl rfl), by decide, _, _, rfl⟩
theorem lk_L_175 : px_lkV "NettleGreenLaw" 175 mX9_lies 9 1 := ⟨kd_X9_lies, (px_in5 113 rfl rfl), (px_in5 114 rfl rfl), (px_in5 115 rfl rfl), by decide, _, _, rfl⟩
theorem lk_L_178 : px_lkV "NettleGreenLaw" 178 mX10_lies 10 1 := ⟨kd_X10_lies, (px_in8 216 rfl rfl), (px_in8 217 rfl rfl), (px_in8 218 rfl rfl), by decide, _, _, rfl⟩
theorem lk_L_179 : px_lkV "NettleGreenLaw" 179 mX9_seen 9 4 := ⟨kd_X9_seen, (px_in5 117 rfl rfl), (px_in5 118 rfl rfl), (px_in5 119 rfl rfl), by decide, _, _, rfl⟩
theorem lk_L_183 : px_lkV "NettleGreenLaw" 183 mX10_seen 10 4 := ⟨kd_X10_seen, (px_in8 220 rfl rfl), (px_in8 221 rfl rfl), (px_in8 222 rfl rfl), by decide, _, _, rfl⟩
theorem lk_L_184 : px_lkV "NettleGreenLaw" 184 mX9_untell 9 1 := ⟨kd_X9_untell, (px_in5 125 rfl rfl), (px_in5 126 rfl rfl), (px_in5 127 rfl rfl), by decide, _, _, rfl⟩
theorem lk_L_188 : px_lkV "NettleGreenLaw" 188 mX10_untell 10 1 := ⟨kd_X10_untell, (px_in8 224 rfl rfl), (px_in8 225 rfl rfl), (px_in8 226 rfl rfl), by decide, _, _, rfl⟩
theorem lk_L_189 : px_lkV "NettleGreenLaw" 189 mX9_later 9 1 := ⟨kd_X9_later, (px_in5 133 rfl rfl), (px_in5 134 rfl rfl), (px_in5 135 rfl rfl), by decide, _, _, rfl⟩
theorem lk_L_192 : px_lkV "NettleGreenLaw" 192 mX10_later 10 1 := ⟨kd_X10_later, (px_in8 228 rfl rfl), (px_in8 229 rfl rfl), (px_in8 230 rfl rfl), by decide, _, _, rfl⟩
theorem lk_L_193 : px_lkV "NettleGreenLaw" 193 mX9_fits 9 1 := ⟨kd_X9_fits, (px_in5 142 rfl rfl), (px_in5 143 rfl rfl), (px_in5 144 rfl rfl), by decide, _, _, rfl⟩
theorem lk_L_196 : px_lkV "NettleGreenLaw" 196 mX10_fits 10 1 := ⟨kd_X10_fits, (px_in8 233 rfl rfl), (px_in8 234 rfl rfl), (px_in8 235 rfl rfl), by decide, _, _, rfl⟩
theorem lk_L_197 : px_lkV "NettleGreenLaw" 197 mX9_sure 9 2 := ⟨kd_X9_sure, (px_in5 167 rfl rfl), (px_in5 168 rfl rfl), (px_in5 169 rfl rfl), by decide, _, _, rfl⟩
theorem lk_L_200 : px_lkV "NettleGreenLaw" 200 mX10_sure 10 2 := ⟨kd_X10_sure, (px_in9 5 rfl rfl), (px_in9 6 rfl rfl), (px_in9 7 rfl rfl), by decide, _, _, rfl⟩
theorem lk_L_201 : px_lkV "NettleGreenLaw" 201 mX9_ask 9 3 := ⟨kd_X9_ask, (px_in5 171 rfl rfl), (px_in5 172 rfl rfl), (px_in5 173 rfl rfl), by decide, _, _, rfl⟩
theorem lk_L_204 : px_lkV "NettleGreenLaw" 204 mX10_ask 10 3 := ⟨kd_X10_ask, (px_in9 9 rfl rfl), (px_in9 10 rfl rfl), (px_in9 11 rfl rfl), by decide, _, _, rfl⟩
theorem lk_L_205 : px_lkV "NettleGreenLaw" 205 mX9_image 9 1 := ⟨kd_X9_image, (px_in5 181 rfl rfl), (px_in5 182 rfl rfl), (px_in5 183 rfl rfl), by decide, _, _, rfl⟩
theorem lk_L_208 : px_lkV "NettleGreenLaw" 208 mX10_image 10 1 := ⟨kd_X10_image, (px_in9 17 rfl rfl), (px_in9 18 rfl rfl), (px_in9 19 rfl rfl), by decide, _, _, rfl⟩
theorem lk_L_209 : px_lkV "NettleGreenLaw" 209 mX9_back 9 1 := ⟨kd_X9_back, (px_in5 189 rfl rfl), (px_in5 190 rfl rfl), (px_in5 191 rfl rfl), by decide, _, _, rfl⟩
theorem lk_L_212 : px_lkV "NettleGreenLaw" 212 mX10_back 10 1 := ⟨kd_X10_back, (px_in9 24 rfl rfl), (px_in9 25 rfl rfl), (px_in9 26 rfl rfl), by decide, _, _, rfl⟩
theorem lk_L_213 : px_lkV "NettleGreenLaw" 213 mX9_about 9 1 := ⟨kd_X9_about, (px_in5 194 rfl rfl), (px_in5 195 rfl rfl), (px_in5 196 rfl rfl), by decide, _, _, rfl⟩
theorem lk_L_216 : px_lkV "NettleGreenLaw" 216 mX10_about 10 1 := ⟨kd_X10_about, (px_in9 28 rfl rfl), (px_in9 29 rfl rfl), (px_in9 30 rfl rfl), by decide, _, _, rfl⟩
theorem lk_10_160 : px_lkV "NettleGreenModel" 160 mX10_four 10 1 := ⟨kd_X10_four, (px_in6 232 rfl rfl), (px_in6 234 rfl rfl), (px_inP3 12 rfl rfl), by decide, _, _, rfl⟩
theorem lk_10_170 : px_lkV "NettleGreenModel" 170 mX10_here 10 1 := ⟨kd_X10_here, (px_in7 12 rfl rfl), (px_in7 14 rfl rfl), (px_inP3 15 rfl rfl), by decide, _, _, rfl⟩
theorem lk_10_187 : px_lkS "NettleGreenModel" 187 mX10_isLetter 1 := ⟨kd_X10_isLetter, (px_in7 16 rfl rfl), (px_in7 17 rfl rfl)⟩
theorem lk_10_191 : px_lkS "NettleGreenModel" 191 mX10_isDigit 1 := ⟨kd_X10_isDigit, (px_in7 19 rfl rfl), (px_in7 20 rfl rfl)⟩
theorem lk_10_194 : px_lkS "NettleGreenModel" 194 mX10_isSign 1 := ⟨kd_X10_isSign, (px_in7 22 rfl rfl), (px_in7 23 rfl rfl)⟩
theorem lk_10_240 : px_lkV "NettleGreenModel" 240 mX10_isOwn 10 0 := ⟨kd_X10_isOwn, (px_in7 46 rfl rfl), (px_in7 48 rfl rfl), (px_inP4 5 rfl rfl), by decide, _, _, rfl⟩
theorem lk_10_244 : px_lkV "NettleGreenModel" 244 mX10_isWord 10 1 := ⟨kd_X10_isWord, (px_in7 30 rfl rfl), (px_in7 32 rfl rfl), (px_inP4 1 rfl rfl), by decide, _, _, rfl⟩
theorem lk_10_248 : px_lkV "NettleGreenModel" 248 mX10_wrong 10 1 := ⟨kd_X10_wrong, (px_in7 69 rfl rfl), (px_in7 71 rfl rfl), (px_inP4 6 rfl rfl), by decide, _, _, rfl⟩
theorem lk_10_251 : px_lkV "NettleGreenModel" 251 mX10_token 10 0 := ⟨kd_X10_token, (px_in7 8 rfl rfl), (px_in7 10 rfl rfl), (px_inP3 14 rfl rfl), by decide, _, _, rfl⟩
theorem lk_10_254 : px_lkV "NettleGreenModel" 254 mX10_want 10 1 := ⟨kd_X10_want, (px_in7 81 rfl rfl), (px_in7 83 rfl rfl), (px_inP4 9 rfl rfl), by decide, _, _, rfl⟩
theorem lk_10_258 : px_lkV "NettleGreenModel" 258 mX10_toldNumber 10 2 := ⟨kd_X10_toldNumber, (px_in7 85 rfl rfl), (px_in7 87 rfl rfl), (px_inP4 10 rfl rfl), by decide, _, _, rfl⟩
theorem lk_10_262 : px_lkV "NettleGreenModel" 262 mX10_told 10 3 := ⟨kd_X10_told, (px_in7 77 rfl rfl), (px_in7 79 rfl rfl), (px_inP4 8 rfl rfl), by decide, _, _, rfl⟩
theorem lk_10_266 : px_lkV "NettleGreenModel" 266 mX10_isName 10 0 := ⟨kd_X10_isName, (px_in7 42 rfl rfl), (px_in7 44 rfl rfl), (px_inP4 4 rfl rfl), by decide, _, _, rfl⟩
theorem lk_10_269 : px_lkV "NettleGreenModel" 269 mX10_find 10 2 := ⟨kd_X10_find, (px_in7 73 rfl rfl), (px_in7 75 rfl rfl), (px_inP4 7 rfl rfl), by decide, _, _, rfl⟩
theorem lk_10_281 : px_lkS "NettleGreenModel" 281 mX10_tight 1 := ⟨kd_X10_tight, (px_in7 121 rfl rfl), (px_in7 122 rfl rfl)⟩
theorem lk_10_284 : px_lkV "NettleGreenModel" 284 mX10_add 10 2 := ⟨kd_X10_add, (px_in7 140 rfl rfl), (px_in7 142 rfl rfl), (px_inP5 7 rfl rfl), by decide, _, _, rfl⟩
theorem lk_10_297 : px_lkV "NettleGreenModel" 297 mX10_mayNot 10 0 := ⟨kd_X10_mayNot, (px_in7 117 rfl rfl), (px_in7 119 rfl rfl), (px_inP5 2 rfl rfl), by decide, _, _, rfl⟩
theorem lk_10_300 : px_lkV "NettleGreenModel" 300 mX10_openUp 10 1 := ⟨kd_X10_openUp, (px_in7 124 rfl rfl), (px_in7 126 rfl rfl), (px_inP5 3 rfl rfl), by decide, _, _, rfl⟩
theorem lk_10_303 : px_lkV "NettleGreenModel" 303 mX10_isFull 10 0 := ⟨kd_X10_isFull, (px_in7 128 rfl rfl), (px_in7 130 rfl rfl), (px_inP5 4 rfl rfl), by decide, _, _, rfl⟩
theorem lk_10_306 : px_lkV "NettleGreenModel" 306 mX10_countUnit 10 0 := ⟨kd_X10_countUnit, (px_in7 132 rfl rfl), (px_in7 134 rfl rfl), (px_inP5 5 rfl rfl), by decide, _, _, rfl⟩
theorem lk_10_309 : px_lkV "NettleGreenModel" 309 mX10_asked 10 0 := ⟨kd_X10_asked, (px_in7 136 rfl rfl), (px_in7 138 rfl rfl), (px_inP5 6 rfl rfl), by decide, _, _, rfl⟩
theorem lk_10_317 : px_lkV "NettleGreenModel" 317 mX10_unit 10 0 := ⟨kd_X10_unit, (px_in7 113 rfl rfl), (px_in7 115 rfl rfl), (px_inP5 1 rfl rfl), by decide, _, _, rfl⟩
theorem lk_10_320 : px_lkV "NettleGreenModel" 320 mX10_sign 10 0 := ⟨kd_X10_sign, (px_in7 144 rfl rfl), (px_in7 146 rfl rfl), (px_inP5 8 rfl rfl), by decide, _, _, rfl⟩
theorem lk_10_323 : px_lkV "NettleGreenModel" 323 mX10_hasBracket 10 0 := ⟨kd_X10_hasBracket, (px_in7 148 rfl rfl), (px_in7 150 rfl rfl), (px_inP5 9 rfl rfl), by decide, _, _, rfl⟩
theorem lk_10_326 : px_lkV "NettleGreenModel" 326 mX10_close 10 1 := ⟨kd_X10_close, (px_in7 152 rfl rfl), (px_in7 154 rfl rfl), (px_inP5 10 rfl rfl), by decide, _, _, rfl⟩
theorem lk_10_329 : px_lkV "NettleGreenModel" 329 mX10_hasRelation 10 0 := ⟨kd_X10_hasRelation, (px_in7 156 rfl rfl), (px_in7 158 rfl rfl), (px_inP5 11 rfl rfl), by decide, _, _, rfl⟩
theorem lk_10_332 : px_lkS "NettleGreenModel" 332 mX10_truth 1 := ⟨kd_X10_truth, (px_in7 191 rfl rfl), (px_in7 192 rfl rfl)⟩
theorem lk_10_339 : px_lkS "NettleGreenModel" 339 mX10_within 3 := ⟨kd_X10_within, (px_in7 222 rfl rfl), (px_in7 223 rfl rfl)⟩
theorem lk_10_346 : px_lkS "NettleGreenModel" 346 mX10_done 3 := ⟨kd_X10_done, (px_in7 225 rfl rfl), (px_in7 226 rfl rfl)⟩
theorem lk_10_349 : px_lkV "NettleGreenModel" 349 mX10_newName 10 2 := ⟨kd_X10_newName, (px_in7 38 rfl rfl), (px_in7 40 rfl rfl), (px_inP4 3 rfl rfl), by decide, _, _, rfl⟩
theorem lk_10_352 : px_lkV "NettleGreenModel" 352 mX10_mayTell 10 2 := ⟨kd_X10_mayTell, (px_in7 89 rfl rfl), (px_in7 91 rfl rfl), (px_inP4 11 rfl rfl), by decide, _, _, rfl⟩
theorem lk_10_359 : px_lkV "NettleGreenModel" 359 mX10_oldPerson 10 0 := ⟨kd_X10_oldPerson, (px_in7 97 rfl rfl), (px_in7 99 rfl rfl), (px_inP4 13 rfl rfl), by decide, _, _, rfl⟩
theorem lk_10_365 : px_lkV "NettleGreenModel" 365 mX10_readOne 10 0 := ⟨kd_X10_readOne, (px_in7 105 rfl rfl), (px_in7 107 rfl rfl), (px_inP4 15 rfl rfl), by decide, _, _, rfl⟩
theorem lk_10_368 : px_lkV "NettleGreenModel" 368 mX10_readPerson 10 0 := ⟨kd_X10_readPerson, (px_in7 34 rfl rfl), (px_in7 36 rfl rfl), (px_inP4 2 rfl rfl), by decide, _, _, rfl⟩
theorem lk_10_371 : px_lkV "NettleGreenModel" 371 mX10_readMeeting 10 0 := ⟨kd_X10_readMeeting, (px_in7 93 rfl rfl), (px_in7 95 rfl rfl), (px_inP4 12 rfl rfl), by decide, _, _, rfl⟩
theorem lk_10_374 : px_lkV "NettleGreenModel" 374 mX10_readBrother 10 0 := ⟨kd_X10_readBrother, (px_in7 101 rfl rfl), (px_in7 103 rfl rfl), (px_inP4 14 rfl rfl), by decide, _, _, rfl⟩
theorem lk_10_377 : px_lkV "NettleGreenModel" 377 mX10_formula 10 0 := ⟨kd_X10_formula, (px_in7 109 rfl rfl), (px_in7 111 rfl rfl), (px_inP5 0 rfl rfl), by decide, _, _, rfl⟩
theorem lk_10_398 : px_lkV "NettleGreenModel" 398 mX10_readLine 10 0 := ⟨kd_X10_readLine, (px_in7 25 rfl rfl), (px_in7 27 rfl rfl), (px_inP4 0 rfl rfl), by decide, _, _, rfl⟩
theorem lk_10_401 : px_lkV "NettleGreenModel" 401 mX10_readAll 10 0 := ⟨kd_X10_readAll, (px_in7 4 rfl rfl), (px_in7 6 rfl rfl), (px_inP3 13 rfl rfl), by decide, _, _, rfl⟩
theorem lk_10_422 : px_lkV "NettleGreenModel" 422 mX10_layTold 10 0 := ⟨kd_X10_layTold, (px_in7 160 rfl rfl), (px_in7 162 rfl rfl), (px_inP5 12 rfl rfl), by decide, _, _, rfl⟩
theorem lk_10_425 : px_lkV "NettleGreenModel" 425 mX10_keepAir 10 0 := ⟨kd_X10_keepAir, (px_in7 164 rfl rfl), (px_in7 166 rfl rfl), (px_inP5 13 rfl rfl), by decide, _, _, rfl⟩
theorem lk_10_440 : px_lkS "NettleGreenModel" 440 mX10_isIn 3 := ⟨kd_X10_isIn, (px_in7 180 rfl rfl), (px_in7 181 rfl rfl)⟩
theorem lk_10_444 : px_lkV "NettleGreenModel" 444 mX10_isAbed 10 1 := ⟨kd_X10_isAbed, (px_in7 187 rfl rfl), (px_in7 189 rfl rfl), (px_inP6 0 rfl rfl), by decide, _, _, rfl⟩
theorem lk_10_447 : px_lkV "NettleGreenModel" 447 mX10_isBanned 10 1 := ⟨kd_X10_isBanned, (px_in8 12 rfl rfl), (px_in8 14 rfl rfl), (px_inP6 8 rfl rfl), by decide, _, _, rfl⟩
theorem lk_10_450 : px_lkS "NettleGreenModel" 450 mX10_lesser 2 := ⟨kd_X10_lesser, (px_in8 24 rfl rfl), (px_in8 25 rfl rfl)⟩
theorem lk_10_453 : px_lkV "NettleGreenModel" 453 mX10_touchOf 10 3 := ⟨kd_X10_touchOf, (px_in7 218 rfl rfl), (px_in7 220 rfl rfl), (px_inP6 3 rfl rfl), by decide, _, _, rfl⟩
theorem lk_10_456 : px_lkV "NettleGreenModel" 456 mX10_swells 10 2 := ⟨kd_X10_swells, (px_in8 20 rfl rfl), (px_in8 22 rfl rfl), (px_inP6 10 rfl rfl), by decide, _, _, rfl⟩
theorem lk_10_459 : px_lkV "NettleGreenModel" 459 mX10_learn 10 2 := ⟨kd_X10_learn, (px_in8 27 rfl rfl), (px_in8 29 rfl rfl), (px_inP6 11 rfl rfl), by decide, _, _, rfl⟩
theorem lk_10_462 : px_lkS "NettleGreenModel" 462 mX10_greater 2 := ⟨kd_X10_greater, (px_in8 35 rfl rfl), (px_in8 36 rfl rfl)⟩
theorem lk_10_465 : px_lkV "NettleGreenModel" 465 mX10_takesPlace 10 1 := ⟨kd_X10_takesPlace, (px_in8 8 rfl rfl), (px_in8 10 rfl rfl), (px_inP6 7 rfl rfl), by decide, _, _, rfl⟩
theorem lk_10_468 : px_lkV "NettleGreenModel" 468 mX10_meets 10 1 := ⟨kd_X10_meets, (px_in8 16 rfl rfl), (px_in8 18 rfl rfl), (px_inP6 9 rfl rfl), by decide, _, _, rfl⟩
theorem lk_10_471 : px_lkV "NettleGreenModel" 471 mX10_soothes 10 2 := ⟨kd_X10_soothes, (px_in8 31 rfl rfl), (px_in8 33 rfl rfl), (px_inP6 12 rfl rfl), by decide, _, _, rfl⟩
theorem lk_10_474 : px_lkV "NettleGreenModel" 474 mX10_flaresUp 10 0 := ⟨kd_X10_flaresUp, (px_in8 38 rfl rfl), (px_in8 40 rfl rfl), (px_inP6 13 rfl rfl), by decide, _, _, rfl⟩
theorem lk_10_477 : px_lkV "NettleGreenModel" 477 mX10_isPerson 10 1 := ⟨kd_X10_isPerson, (px_in7 176 rfl rfl), (px_in7 178 rfl rfl), (px_inP5 14 rfl rfl), by decide, _, _, rfl⟩
theorem lk_10_480 : px_lkV "NettleGreenModel" 480 mX10_fill 10 0 := ⟨kd_X10_fill, (px_in7 183 rfl rfl), (px_in7 185 rfl rfl), (px_inP5 15 rfl rfl), by decide, _, _, rfl⟩
theorem lk_10_483 : px_lkV "NettleGreenModel" 483 mX10_isMeeting 10 1 := ⟨kd_X10_isMeeting, (px_in7 198 rfl rfl), (px_in7 200 rfl rfl), (px_inP6 1 rfl rfl), by decide, _, _, rfl⟩
theorem lk_10_486 : px_lkV "NettleGreenModel" 486 mX10_isBrother 10 1 := ⟨kd_X10_isBrother, (px_in7 206 rfl rfl), (px_in7 208 rfl rfl), (px_inP6 2 rfl rfl), by decide, _, _, rfl⟩
theorem lk_10_489 : px_lkV "NettleGreenModel" 489 mX10_abedOnes 10 0 := ⟨kd_X10_abedOnes, (px_in7 232 rfl rfl), (px_in7 234 rfl rfl), (px_inP6 4 rfl rfl), by decide, _, _, rfl⟩
theorem lk_10_492 : px_lkV "NettleGreenModel" 492 mX10_act 10 0 := ⟨kd_X10_act, (px_in8 0 rfl rfl), (px_in8 2 rfl rfl), (px_inP6 5 rfl rfl), by decide, _, _, rfl⟩
theorem lk_10_495 : px_lkV "NettleGreenModel" 495 mX10_goDay 10 1 := ⟨kd_X10_goDay, (px_in8 4 rfl rfl), (px_in8 6 rfl rfl), (px_inP6 6 rfl rfl), by decide, _, _, rfl⟩
theorem lk_10_498 : px_lkV "NettleGreenModel" 498 mX10_isBannedNow 10 1 := ⟨kd_X10_isBannedNow, (px_in8 50 rfl rfl), (px_in8 52 rfl rfl), (px_inP6 14 rfl rfl), by decide, _, _, rfl⟩
theorem lk_10_501 : px_lkV "NettleGreenModel" 501 mX10_turnBan 10 1 := ⟨kd_X10_turnBan, (px_in8 54 rfl rfl), (px_in8 56 rfl rfl), (px_inP6 15 rfl rfl), by decide, _, _, rfl⟩
theorem lk_10_504 : px_lkV "NettleGreenModel" 504 mX10_exchange 10 1 := ⟨kd_X10_exchange, (px_in8 70 rfl rfl), (px_in8 72 rfl rfl), (px_inP7 0 rfl rfl), by decide, _, _, rfl⟩
theorem lk_10_507 : px_lkV "NettleGreenModel" 507 mX10_hurtBehind 10 1 := ⟨kd_X10_hurtBehind, (px_in8 90 rfl rfl), (px_in8 92 rfl rfl), (px_inP7 1 rfl rfl), by decide, _, _, rfl⟩
theorem lk_10_510 : px_lkS "NettleGreenModel" 510 mX10_members 1 := ⟨kd_X10_members, (px_in8 102 rfl rfl), (px_in8 103 rfl rfl)⟩
theorem lk_10_513 : px_lkV "NettleGreenModel" 513 mX10_isPeace 10 2 := ⟨kd_X10_isPeace, (px_in8 105 rfl rfl), (px_in8 107 rfl rfl), (px_inP7 2 rfl rfl), by decide, _, _, rfl⟩
theorem lk_10_520 : px_lkV "NettleGreenModel" 520 mX10_swap 10 2 := ⟨kd_X10_swap, (px_in8 122 rfl rfl), (px_in8 124 rfl rfl), (px_inP7 5 rfl rfl), by decide, _, _, rfl⟩
theorem lk_10_523 : px_lkV "NettleGreenModel" 523 mX10_layRow 10 1 := ⟨kd_X10_layRow, (px_in8 113 rfl rfl), (px_in8 115 rfl rfl), (px_inP7 3 rfl rfl), by decide, _, _, rfl⟩
theorem lk_10_527 : px_lkV "NettleGreenModel" 527 mX10_nextRow 10 0 := ⟨kd_X10_nextRow, (px_in8 118 rfl rfl), (px_in8 120 rfl rfl), (px_inP7 4 rfl rfl), by decide, _, _, rfl⟩
theorem lk_10_530 : px_lkV "NettleGreenModel" 530 mX10_friendsOf 10 1 := ⟨kd_X10_friendsOf, (px_in8 138 rfl rfl), (px_in8 140 rfl rfl), (px_inP7 6 rfl rfl), by decide, _, _, rfl⟩
theorem lk_10_533 : px_lkS "NettleGreenModel" 533 mX10_power 2 := ⟨kd_X10_power, (px_in8 150 rfl rfl), (px_in8 151 rfl rfl)⟩
theorem lk_10_536 : px_lkV "NettleGreenModel" 536 mX10_layGroups 10 2 := ⟨kd_X10_layGroups, (px_in8 153 rfl rfl), (px_in8 155 rfl rfl), (px_inP7 8 rfl rfl), by decide, _, _, rfl⟩
theorem lk_10_539 : px_lkV "NettleGreenModel" 539 mX10_findGroups 10 1 := ⟨kd_X10_findGroups, (px_in8 146 rfl rfl), (px_in8 148 rfl rfl), (px_inP7 7 rfl rfl), by decide, _, _, rfl⟩
theorem lk_10_542 : px_lkV "NettleGreenModel" 542 mX10_meetingsOf 10 1 := ⟨kd_X10_meetingsOf, (px_in8 173 rfl rfl), (px_in8 175 rfl rfl), (px_inP7 9 rfl rfl), by decide, _, _, rfl⟩
theorem lk_10_545 : px_lkV "NettleGreenModel" 545 mX10_mostAt 10 1 := ⟨kd_X10_mostAt, (px_in8 185 rfl rfl), (px_in8 187 rfl rfl), (px_inP7 10 rfl rfl), by decide, _, _, rfl⟩
theorem lk_10_548 : px_lkS "NettleGreenModel" 548 mX10_divisor 2 := ⟨kd_X10_divisor, (px_in8 213 rfl rfl), (px_in8 214 rfl rfl)⟩
theorem lk_10_555 : px_lkV "NettleGreenModel" 555 mX10_fitsFirm 10 2 := ⟨kd_X10_fitsFirm, (px_in9 1 rfl rfl), (px_in9 3 rfl rfl), (px_inP7 12 rfl rfl), by decide, _, _, rfl⟩
theorem lk_10_558 : px_lkV "NettleGreenModel" 558 mX10_layFits 10 1 := ⟨kd_X10_layFits, (px_in8 237 rfl rfl), (px_in8 239 rfl rfl), (px_inP7 11 rfl rfl), by decide, _, _, rfl⟩
theorem lk_10_561 : px_lkV "NettleGreenModel" 561 mX10_leftBy 10 2 := ⟨kd_X10_leftBy, (px_in9 13 rfl rfl), (px_in9 15 rfl rfl), (px_inP7 13 rfl rfl), by decide, _, _, rfl⟩
theorem lk_10_564 : px_lkS "NettleGreenModel" 564 mX10_isBox 1 := ⟨kd_X10_isBox, (px_in9 21 rfl rfl), (px_in9 22 rfl rfl)⟩
theorem lk_JString_495 : px_lkS "java/lang/String" 495 mJ1_charAt_3b067 2 := ⟨kd_J1_charAt_3b067, (px_in1 199 rfl rfl), (px_in1 200 rfl rfl)⟩
theorem lk_JString_498 : px_lkS "java/lang/String" 498 mJ2_charAt_3b067 2 := ⟨kd_J2_charAt_3b067, (px_in1 210 rfl rfl), (px_in1 211 rfl rfl)⟩
theorem lk_JString_637 : px_lkS "java/lang/String" 637 mJ1_indexOf_4cfef 4 := ⟨kd_J1_indexOf_4cfef, (px_in3 43 rfl rfl), (px_in3 44 rfl rfl)⟩
theorem lk_JString_640 : px_lkS "java/lang/String" 640 mJ2_indexOf_4cfef 4 := ⟨kd_J2_indexOf_4cfef, (px_in3 56 rfl rfl), (px_in3 57 rfl rfl)⟩
theorem lk_JString_1059 : px_lkS "java/lang/String" 1059 mJ3_checkIndex_8e157 3 := ⟨kd_J3_checkIndex_8e157, (px_in1 207 rfl rfl), (px_in1 208 rfl rfl)⟩
theorem lk_JString_1062 : px_lkS "java/lang/String" 1062 mJ3_checkFromToIndex_8c36e 4 := ⟨kd_J3_checkFromToIndex_8c36e, (px_in3 71 rfl rfl), (px_in3 72 rfl rfl)⟩
theorem lk_JStringLatin1_9 : px_lkS "java/lang/StringLatin1" 9 mJ0_checkIndex_df160 2 := ⟨kd_J0_checkIndex_df160, (px_in1 202 rfl rfl), (px_in1 203 rfl rfl)⟩
theorem lk_JStringLatin1_38 : px_lkS "java/lang/StringLatin1" 38 mJ9_min_7cf53 2 := ⟨kd_J9_min_7cf53, (px_in3 52 rfl rfl), (px_in3 15 rfl rfl)⟩
theorem lk_JStringLatin1_88 : px_lkS "java/lang/StringLatin1" 88 mJ1_canEncode_9a6ad 1 := ⟨kd_J1_canEncode_9a6ad, (px_in3 46 rfl rfl), (px_in3 47 rfl rfl)⟩
theorem lk_JStringLatin1_92 : px_lkS "java/lang/StringLatin1" 92 mJ9_max_7cf53 2 := ⟨kd_J9_max_7cf53, (px_in3 49 rfl rfl), (px_in3 50 rfl rfl)⟩
theorem lk_JStringLatin1_95 : px_lkS "java/lang/StringLatin1" 95 mJ1_indexOfChar_4cfef 4 := ⟨kd_J1_indexOfChar_4cfef, (px_in3 53 rfl rfl), (px_in3 54 rfl rfl)⟩
theorem lk_JStringUTF16_48 : px_lkS "java/lang/StringUTF16" 48 mJ2_length_9d52b 1 := ⟨kd_J2_length_9d52b, (px_in1 216 rfl rfl), (px_in1 217 rfl rfl)⟩
theorem lk_JStringUTF16_67 : px_lkS "java/lang/StringUTF16" 67 mJ2_checkIndex_2214a 2 := ⟨kd_J2_checkIndex_2214a, (px_in1 213 rfl rfl), (px_in1 214 rfl rfl)⟩
theorem lk_JStringUTF16_71 : px_lkS "java/lang/StringUTF16" 71 mJ2_getChar_3b067 2 := ⟨kd_J2_getChar_3b067, (px_in1 220 rfl rfl), (px_in1 221 rfl rfl)⟩
theorem lk_JStringUTF16_96 : px_lkS "java/lang/StringUTF16" 96 mJ2_checkBoundsBeginEnd_d044e 3 := ⟨kd_J2_checkBoundsBeginEnd_d044e, (px_in3 65 rfl rfl), (px_in3 66 rfl rfl)⟩
theorem lk_JStringUTF16_157 : px_lkS "java/lang/StringUTF16" 157 mJ11_highSurrogate_5068e 1 := ⟨kd_J11_highSurrogate_5068e, (px_in3 83 rfl rfl), (px_in3 84 rfl rfl)⟩
theorem lk_JStringUTF16_161 : px_lkS "java/lang/StringUTF16" 161 mJ11_lowSurrogate_5068e 1 := ⟨kd_J11_lowSurrogate_5068e, (px_in3 87 rfl rfl), (px_in3 88 rfl rfl)⟩
theorem lk_JStringUTF16_164 : px_lkS "java/lang/StringUTF16" 164 mJ11_isValidCodePoint_9a6ad 1 := ⟨kd_J11_isValidCodePoint_9a6ad, (px_in3 80 rfl rfl), (px_in3 81 rfl rfl)⟩
theorem lk_JStringUTF16_183 : px_lkS "java/lang/StringUTF16" 183 mJ9_min_7cf53 2 := ⟨kd_J9_min_7cf53, (px_in3 60 rfl rfl), (px_in3 15 rfl rfl)⟩
theorem lk_JStringUTF16_224 : px_lkS "java/lang/StringUTF16" 224 mJ9_max_7cf53 2 := ⟨kd_J9_max_7cf53, (px_in3 59 rfl rfl), (px_in3 50 rfl rfl)⟩
theorem lk_JStringUTF16_228 : px_lkS "java/lang/StringUTF16" 228 mJ2_indexOfChar_4cfef 4 := ⟨kd_J2_indexOfChar_4cfef, (px_in3 62 rfl rfl), (px_in3 63 rfl rfl)⟩
theorem lk_JStringUTF16_232 : px_lkS "java/lang/StringUTF16" 232 mJ2_indexOfSupplementary_4cfef 4 := ⟨kd_J2_indexOfSupplementary_4cfef, (px_in3 77 rfl rfl), (px_in3 78 rfl rfl)⟩
theorem lk_JStringUTF16_241 : px_lkS "java/lang/StringUTF16" 241 mJ0_checkBoundsBeginEnd_23922 3 := ⟨kd_J0_checkBoundsBeginEnd_23922, (px_in3 68 rfl rfl), (px_in3 69 rfl rfl)⟩
theorem lk_JStringUTF16_244 : px_lkS "java/lang/StringUTF16" 244 mJ2_indexOfCharUnsafe_4cfef 4 := ⟨kd_J2_indexOfCharUnsafe_4cfef, (px_in3 74 rfl rfl), (px_in3 75 rfl rfl)⟩
theorem lk_JStringUTF16_414 : px_lkS "java/lang/StringUTF16" 414 mJ0_checkIndex_df160 2 := ⟨kd_J0_checkIndex_df160, (px_in1 219 rfl rfl), (px_in1 203 rfl rfl)⟩
