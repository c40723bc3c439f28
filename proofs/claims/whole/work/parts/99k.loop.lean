section LAW
variable {E : px_E} {d : Nat} {Q : Option Value → pw_W → Prop} {nm : String}
theorem and63 (x : Int32) : ∃ c, c < 64 ∧ x &&& 63 = nI c := by
  refine ⟨(x &&& 63).toBitVec.toNat, ?_, ?_⟩
  · show (x.toBitVec &&& (63 : Int32).toBitVec).toNat < 64
    rw [BitVec.toNat_and]
    exact Nat.lt_of_le_of_lt Nat.and_le_right (by decide)
  · apply Int32.toBitVec_inj.mp
    show _ = BitVec.ofNat 32 _
    rw [BitVec.ofNat_toNat, BitVec.setWidth_eq]
theorem law_sw {w : pw_W} {i : Nat} (hsl : px_sL E < 2 ^ 31) (hi : i + 6 ≤ px_sL E) (ok : lOK w) (k : ∀ w', lOK w' → px_W E (mLw nm) (d + 121) 0 0 1537 [.ref 0, .ref 1, .ref 61, .int (nI i)] [] w' Q) : px_W E (mLw nm) (d + 121) 0 0 27 [.ref 0, .ref 1, .ref 61, .int (nI i)] [] w Q := by
  obtain ⟨t, g, hg, hX, hM⟩ := ok
  refine px_aload_n dL_law_27 rfl rfl ?_
  refine px_iload_n dL_law_28 rfl rfl ?_
  refine px_sld dL_law_29 i rfl (by omega) hsl ?_
  refine px_bipush dL_law_30 bp_63 ?_
  refine px_iand dL_law_32 ?_
  obtain ⟨c, hc, e⟩ := and63 (px_sx E i)
  rw [e]
  rcases (show c = 0 ∨ c = 1 ∨ c = 2 ∨ c = 3 ∨ c = 4 ∨ c = 5 ∨ c = 6 ∨ c = 7 ∨ c = 8 ∨ c = 9 ∨ c = 10 ∨ c = 11 ∨ c = 12 ∨ c = 13 ∨ c = 14 ∨ c = 15 ∨ c = 16 ∨ c = 17 ∨ c = 18 ∨ c = 19 ∨ c = 20 ∨ c = 21 ∨ c = 22 ∨ c = 23 ∨ c = 24 ∨ c = 25 ∨ c = 26 ∨ c = 27 ∨ c = 28 ∨ c = 29 ∨ c = 30 ∨ c = 31 ∨ c = 32 ∨ c = 33 ∨ c = 34 ∨ c = 35 ∨ c = 36 ∨ c = 37 ∨ c = 38 ∨ c = 39 ∨ c = 40 ∨ c = 41 ∨ c = 42 ∨ c = 43 ∨ c = 44 ∨ c = 45 ∨ c = 46 ∨ c = 47 ∨ c = 48 ∨ c = 49 ∨ c = 50 ∨ c = 51 ∨ c = 52 ∨ c = 53 ∨ c = 54 ∨ c = 55 ∨ c = 56 ∨ c = 57 ∨ c = 58 ∨ c = 59 ∨ c = 60 ∨ c = 61 ∨ c = 62 ∨ c = 63 by omega) with rfl | rfl | rfl | rfl | rfl | rfl | rfl | rfl | rfl | rfl | rfl | rfl | rfl | rfl | rfl | rfl | rfl | rfl | rfl | rfl | rfl | rfl | rfl | rfl | rfl | rfl | rfl | rfl | rfl | rfl | rfl | rfl | rfl | rfl | rfl | rfl | rfl | rfl | rfl | rfl | rfl | rfl | rfl | rfl | rfl | rfl | rfl | rfl | rfl | rfl | rfl | rfl | rfl | rfl | rfl | rfl | rfl | rfl | rfl | rfl | rfl | rfl | rfl | rfl
  · refine px_table (tgt := 244) dL_law_33 211 (by decide) (by decide) ?_
    exact lc_0 hsl hi hg hX hM k
  · refine px_table (tgt := 307) dL_law_33 274 (by decide) (by decide) ?_
    exact lc_1 hsl hi hg hX hM k
  · refine px_table (tgt := 330) dL_law_33 297 (by decide) (by decide) ?_
    exact lc_2 hsl hi hg hX hM k
  · refine px_table (tgt := 343) dL_law_33 310 (by decide) (by decide) ?_
    exact lc_3 hsl hi hg hX hM k
  · refine px_table (tgt := 366) dL_law_33 333 (by decide) (by decide) ?_
    exact lc_4 hsl hi hg hX hM k
  · refine px_table (tgt := 399) dL_law_33 366 (by decide) (by decide) ?_
    exact lc_5 hsl hi hg hX hM k
  · refine px_table (tgt := 432) dL_law_33 399 (by decide) (by decide) ?_
    exact lc_6 hsl hi hg hX hM k
  · refine px_table (tgt := 465) dL_law_33 432 (by decide) (by decide) ?_
    exact lc_7 hsl hi hg hX hM k
  · refine px_table (tgt := 498) dL_law_33 465 (by decide) (by decide) ?_
    exact lc_8 hsl hi hg hX hM k
  · refine px_table (tgt := 531) dL_law_33 498 (by decide) (by decide) ?_
    exact lc_9 hsl hi hg hX hM k
  · refine px_table (tgt := 544) dL_law_33 511 (by decide) (by decide) ?_
    exact lc_10 hsl hi hg hX hM k
  · refine px_table (tgt := 557) dL_law_33 524 (by decide) (by decide) ?_
    exact lc_11 hsl hi hg hX hM k
  · refine px_table (tgt := 580) dL_law_33 547 (by decide) (by decide) ?_
    exact lc_12 hsl hi hg hX hM k
  · refine px_table (tgt := 603) dL_law_33 570 (by decide) (by decide) ?_
    exact lc_13 hsl hi hg hX hM k
  · refine px_table (tgt := 626) dL_law_33 593 (by decide) (by decide) ?_
    exact lc_14 hsl hi hg hX hM k
  · refine px_table (tgt := 659) dL_law_33 626 (by decide) (by decide) ?_
    exact lc_15 hsl hi hg hX hM k
  · refine px_table (tgt := 672) dL_law_33 639 (by decide) (by decide) ?_
    exact lc_16 hsl hi hg hX hM k
  · refine px_table (tgt := 685) dL_law_33 652 (by decide) (by decide) ?_
    exact lc_17 hsl hi hg hX hM k
  · refine px_table (tgt := 728) dL_law_33 695 (by decide) (by decide) ?_
    exact lc_18 hsl hi hg hX hM k
  · refine px_table (tgt := 761) dL_law_33 728 (by decide) (by decide) ?_
    exact lc_19 hsl hi hg hX hM k
  · refine px_table (tgt := 784) dL_law_33 751 (by decide) (by decide) ?_
    exact lc_20 hsl hi hg hX hM k
  · refine px_table (tgt := 807) dL_law_33 774 (by decide) (by decide) ?_
    exact lc_21 hsl hi hg hX hM k
  · refine px_table (tgt := 840) dL_law_33 807 (by decide) (by decide) ?_
    exact lc_22 hsl hi hg hX hM k
  · refine px_table (tgt := 873) dL_law_33 840 (by decide) (by decide) ?_
    exact lc_23 hsl hi hg hX hM k
  · refine px_table (tgt := 906) dL_law_33 873 (by decide) (by decide) ?_
    exact lc_24 hsl hi hg hX hM k
  · refine px_table (tgt := 939) dL_law_33 906 (by decide) (by decide) ?_
    exact lc_25 hsl hi hg hX hM k
  · refine px_table (tgt := 952) dL_law_33 919 (by decide) (by decide) ?_
    exact lc_26 hsl hi hg hX hM k
  · refine px_table (tgt := 985) dL_law_33 952 (by decide) (by decide) ?_
    exact lc_27 hsl hi hg hX hM k
  · refine px_table (tgt := 998) dL_law_33 965 (by decide) (by decide) ?_
    exact lc_28 hsl hi hg hX hM k
  · refine px_table (tgt := 1021) dL_law_33 988 (by decide) (by decide) ?_
    exact lc_29 hsl hi hg hX hM k
  · refine px_table (tgt := 1044) dL_law_33 1011 (by decide) (by decide) ?_
    exact lc_30 hsl hi hg hX hM k
  · refine px_table (tgt := 1077) dL_law_33 1044 (by decide) (by decide) ?_
    exact lc_31 hsl hi hg hX hM k
  · refine px_table (tgt := 1090) dL_law_33 1057 (by decide) (by decide) ?_
    exact lc_32 hsl hi hg hX hM k
  · refine px_table (tgt := 1103) dL_law_33 1070 (by decide) (by decide) ?_
    exact lc_33 hsl hi hg hX hM k
  · refine px_table (tgt := 1116) dL_law_33 1083 (by decide) (by decide) ?_
    exact lc_34 hsl hi hg hX hM k
  · refine px_table (tgt := 1139) dL_law_33 1106 (by decide) (by decide) ?_
    exact lc_35 hsl hi hg hX hM k
  · refine px_table (tgt := 1152) dL_law_33 1119 (by decide) (by decide) ?_
    exact lc_36 hsl hi hg hX hM k
  · refine px_table (tgt := 1175) dL_law_33 1142 (by decide) (by decide) ?_
    exact lc_37 hsl hi hg hX hM k
  · refine px_table (tgt := 1198) dL_law_33 1165 (by decide) (by decide) ?_
    exact lc_38 hsl hi hg hX hM k
  · refine px_table (tgt := 1231) dL_law_33 1198 (by decide) (by decide) ?_
    exact lc_39 hsl hi hg hX hM k
  · refine px_table (tgt := 1254) dL_law_33 1221 (by decide) (by decide) ?_
    by_cases hz : px_sx E (i + 4) = 0
    · exact lc_40a hsl hi hz hg hX hM k
    · exact lc_40b hsl hi hz hg hX hM k
  · refine px_table (tgt := 1323) dL_law_33 1290 (by decide) (by decide) ?_
    exact lc_41 hsl hi hg hX hM k
  · refine px_table (tgt := 1346) dL_law_33 1313 (by decide) (by decide) ?_
    exact lc_42 hsl hi hg hX hM k
  · refine px_table (tgt := 1369) dL_law_33 1336 (by decide) (by decide) ?_
    exact lc_43 hsl hi hg hX hM k
  · refine px_table (tgt := 1392) dL_law_33 1359 (by decide) (by decide) ?_
    exact lc_44 hsl hi hg hX hM k
  · refine px_table (tgt := 1425) dL_law_33 1392 (by decide) (by decide) ?_
    exact lc_45 hsl hi hg hX hM k
  · refine px_table (tgt := 1468) dL_law_33 1435 (by decide) (by decide) ?_
    exact lc_46 hsl hi hg hX hM k
  · refine px_table (tgt := 1491) dL_law_33 1458 (by decide) (by decide) ?_
    exact lc_47 hsl hi hg hX hM k
  · refine px_table (tgt := 1514) dL_law_33 1481 (by decide) (by decide) ?_
    exact lc_48 hsl hi hg hX hM k
  · refine px_table (tgt := 1537) dL_law_33 1504 (by decide) (by decide) ?_
    exact k w ⟨t, g, hg, hX, hM⟩
  · refine px_table (tgt := 1537) dL_law_33 1504 (by decide) (by decide) ?_
    exact k w ⟨t, g, hg, hX, hM⟩
  · refine px_table (tgt := 1537) dL_law_33 1504 (by decide) (by decide) ?_
    exact k w ⟨t, g, hg, hX, hM⟩
  · refine px_table (tgt := 1537) dL_law_33 1504 (by decide) (by decide) ?_
    exact k w ⟨t, g, hg, hX, hM⟩
  · refine px_table (tgt := 1537) dL_law_33 1504 (by decide) (by decide) ?_
    exact k w ⟨t, g, hg, hX, hM⟩
  · refine px_table (tgt := 1537) dL_law_33 1504 (by decide) (by decide) ?_
    exact k w ⟨t, g, hg, hX, hM⟩
  · refine px_table (tgt := 1537) dL_law_33 1504 (by decide) (by decide) ?_
    exact k w ⟨t, g, hg, hX, hM⟩
  · refine px_table (tgt := 1537) dL_law_33 1504 (by decide) (by decide) ?_
    exact k w ⟨t, g, hg, hX, hM⟩
  · refine px_table (tgt := 1537) dL_law_33 1504 (by decide) (by decide) ?_
    exact k w ⟨t, g, hg, hX, hM⟩
  · refine px_table (tgt := 1537) dL_law_33 1504 (by decide) (by decide) ?_
    exact k w ⟨t, g, hg, hX, hM⟩
  · refine px_table (tgt := 1537) dL_law_33 1504 (by decide) (by decide) ?_
    exact k w ⟨t, g, hg, hX, hM⟩
  · refine px_table (tgt := 1537) dL_law_33 1504 (by decide) (by decide) ?_
    exact k w ⟨t, g, hg, hX, hM⟩
  · refine px_table (tgt := 1537) dL_law_33 1504 (by decide) (by decide) ?_
    exact k w ⟨t, g, hg, hX, hM⟩
  · refine px_table (tgt := 1537) dL_law_33 1504 (by decide) (by decide) ?_
    exact k w ⟨t, g, hg, hX, hM⟩
  · refine px_table (tgt := 1537) dL_law_33 1504 (by decide) (by decide) ?_
    exact k w ⟨t, g, hg, hX, hM⟩
theorem law_lt {L i : Nat} (hL : L ≤ 4000) (hi : i ≤ 4000) : nI L - 6 < nI i ↔ L < i + 6 := by
  by_cases h : 6 ≤ L
  · rw [show nI L - 6 = nI (L - 6) from pk_sub (b := 6) h, nI_ltI (by omega) (by omega)]
    omega
  · have := (za_lt0 (a := L) (b := 6) (by omega) (by decide)).mpr (by omega)
    exact ⟨fun _ => by omega, fun _ => Int32.lt_of_lt_of_le this (nI_le (a := 0) (by omega) (by omega))⟩
theorem law_loop (hs : px_sL E ≤ 3072) (h1 : ∀ w, Q (some (.int 1)) w) : ∀ (n i : Nat) (w : pw_W), px_sL E < i + n → i ≤ px_sL E → lOK w → px_W E (mLw nm) (d + 121) 0 0 18 [.ref 0, .ref 1, .ref 61, .int (nI i)] [] w Q := by
  intro n
  induction n with
  | zero => intro i w h1 h2; omega
  | succ n ih =>
    intro i w hn hi ok
    refine px_iload_n dL_law_18 rfl rfl ?_
    refine px_aload_n dL_law_19 rfl rfl ?_
    refine px_slen dL_law_20 ?_
    refine px_bipush dL_law_21 bp_6 ?_
    refine px_isub dL_law_23 ?_
    refine px_icmp_gt (tgt := 1543) dL_law_24 (by decide) (fun _ => ?_) (fun z => ?_)
    · refine px_iconst dL_law_1543 ic_1 ?_
      exact px_ireturn dL_law_1544 rfl (by decide) (h1 w)
    · rw [law_lt (by omega) (by omega)] at z
      refine law_sw (by omega) (by omega) ok (fun w' ok' => ?_)
      refine px_iinc (ls' := [.ref 0, .ref 1, .ref 61, .int (nI i + 6)]) dL_law_1537 ⟨(by decide : 3 < 4), rfl⟩ rfl rfl rfl ?_
      refine px_goto (tgt := 18) dL_law_1540 (by decide) ?_
      rw [show nI i + 6 = nI (i + 6) from nI_add i 6]
      exact ih (i + 6) w' (by omega) (by omega) ok'
end LAW
