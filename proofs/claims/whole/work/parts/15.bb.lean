theorem dX4_lumpsBehind_0 : decode mX4_lumpsBehind.2.1 0 = .ok (.aload_n 0, 1) := by decide +kernel
theorem dX4_lumpsBehind_1 : decode mX4_lumpsBehind.2.1 1 = .ok (.getfield 12, 3) := by decide +kernel
theorem dX4_lumpsBehind_4 : decode mX4_lumpsBehind.2.1 4 = .ok (.aload_n 2, 1) := by decide +kernel
theorem dX4_lumpsBehind_5 : decode mX4_lumpsBehind.2.1 5 = .ok (.invokevirtual 22, 3) := by decide +kernel
theorem dX4_lumpsBehind_8 : decode mX4_lumpsBehind.2.1 8 = .ok (.iconst 0, 1) := by decide +kernel
theorem dX4_lumpsBehind_9 : decode mX4_lumpsBehind.2.1 9 = .ok (.istore 6, 2) := by decide +kernel
theorem dX4_lumpsBehind_11 : decode mX4_lumpsBehind.2.1 11 = .ok (.iload 6, 2) := by decide +kernel
theorem dX4_lumpsBehind_13 : decode mX4_lumpsBehind.2.1 13 = .ok (.iload 4, 2) := by decide +kernel
theorem dX4_lumpsBehind_15 : decode mX4_lumpsBehind.2.1 15 = .ok (.if_icmp .ge 24, 3) := by decide +kernel
theorem dX4_lumpsBehind_18 : decode mX4_lumpsBehind.2.1 18 = .ok (.aload_n 1, 1) := by decide +kernel
theorem dX4_lumpsBehind_19 : decode mX4_lumpsBehind.2.1 19 = .ok (.aload_n 0, 1) := by decide +kernel
theorem dX4_lumpsBehind_20 : decode mX4_lumpsBehind.2.1 20 = .ok (.getfield 12, 3) := by decide +kernel
theorem dX4_lumpsBehind_23 : decode mX4_lumpsBehind.2.1 23 = .ok (.aload_n 1, 1) := by decide +kernel
theorem dX4_lumpsBehind_24 : decode mX4_lumpsBehind.2.1 24 = .ok (.getfield 26, 3) := by decide +kernel
theorem dX4_lumpsBehind_27 : decode mX4_lumpsBehind.2.1 27 = .ok (.iload 5, 2) := by decide +kernel
theorem dX4_lumpsBehind_29 : decode mX4_lumpsBehind.2.1 29 = .ok (.invokevirtual 31, 3) := by decide +kernel
theorem dX4_lumpsBehind_32 : decode mX4_lumpsBehind.2.1 32 = .ok (.pop, 1) := by decide +kernel
theorem dX4_lumpsBehind_33 : decode mX4_lumpsBehind.2.1 33 = .ok (.iinc 6 1, 3) := by decide +kernel
theorem dX4_lumpsBehind_36 : decode mX4_lumpsBehind.2.1 36 = .ok (.goto (-25), 3) := by decide +kernel
theorem dX4_lumpsBehind_39 : decode mX4_lumpsBehind.2.1 39 = .ok (.aload_n 0, 1) := by decide +kernel
theorem dX4_lumpsBehind_40 : decode mX4_lumpsBehind.2.1 40 = .ok (.getfield 12, 3) := by decide +kernel
theorem dX4_lumpsBehind_43 : decode mX4_lumpsBehind.2.1 43 = .ok (.getfield 35, 3) := by decide +kernel
theorem dX4_lumpsBehind_46 : decode mX4_lumpsBehind.2.1 46 = .ok (.iload_n 3, 1) := by decide +kernel
theorem dX4_lumpsBehind_47 : decode mX4_lumpsBehind.2.1 47 = .ok (.iaload, 1) := by decide +kernel
theorem dX4_lumpsBehind_48 : decode mX4_lumpsBehind.2.1 48 = .ok (.ireturn, 1) := by decide +kernel
theorem bX4_lumpsBehind_0 {E : px_E} {d : Nat} {w : pw_W} {Q : Option Value → pw_W → Prop} {t : ct_T} (hw : w.1 = cs t) {x3 x4 x5 : Int32} {r1 : Nat} (hr1 : is_Hamlet r1) {r2 : Nat} 
    (k1 : px_Call E d 0 0 mX8_copyFrom [.ref 42, .ref r2] w (fun v w' => px_W E mX4_lumpsBehind (d + 1) 0 0 8 [.ref 41, .ref r1, .null, .int x3, .int x4, .int x5, .null] (v.toList ++ []) w' Q)) :
    px_W E mX4_lumpsBehind (d + 1) 0 0 0 [.ref 41, .ref r1, .ref r2, .int x3, .int x4, .int x5, .null] [] w Q := by
  refine px_aload_n dX4_lumpsBehind_0 rfl rfl ?_
  refine px_getR (v := 42) dX4_lumpsBehind_1 fr_4_12 rfl (px_sh1 hw sh_41) (px_rf hw rf_41_0) (by decide) ?_
  refine px_aload_n dX4_lumpsBehind_4 rfl rfl ?_
  refine px_forget (ls' := [.ref 41, .ref r1, .null, .int x3, .int x4, .int x5, .null]) ?_ ⟨Or.inr rfl, Or.inr rfl, Or.inl rfl, Or.inr rfl, Or.inr rfl, Or.inr rfl, Or.inl rfl, trivial⟩
  exact px_callV (As := [.ref r2]) (st := []) (rc := 0) (rs := 0) (mc := 0) (ms := 0) dX4_lumpsBehind_5 lk_4_22 (px_sh1 hw sh_42) rfl rfl (Nat.le_of_ble_eq_true rfl) k1
theorem eX4_lumpsBehind {E : px_E} {d : Nat} {w : pw_W} {Q : Option Value → pw_W → Prop} {t : ct_T} (hw : w.1 = cs t) {x3 x4 x5 : Int32} {r1 : Nat} (hr1 : is_Hamlet r1) {r2 : Nat} 
    (k1 : px_Call E d 0 0 mX8_copyFrom [.ref 42, .ref r2] w (fun v w' => px_W E mX4_lumpsBehind (d + 1) 0 0 8 [.ref 41, .ref r1, .null, .int x3, .int x4, .int x5, .null] (v.toList ++ []) w' Q)) :
    px_Call E (d + 1) 0 0 mX4_lumpsBehind [.ref 41, .ref r1, .ref r2, .int x3, .int x4, .int x5] w Q :=
  px_enter (k := 1) (by decide) (Nat.le_of_ble_eq_true rfl) rfl (px_forget (bX4_lumpsBehind_0 hw hr1 k1) ⟨Or.inr rfl, Or.inr rfl, Or.inr rfl, Or.inr rfl, Or.inr rfl, Or.inr rfl, Or.inl rfl, trivial⟩)
theorem bX4_lumpsBehind_8 {E : px_E} {d : Nat} {w : pw_W} {Q : Option Value → pw_W → Prop} {t : ct_T} (hw : w.1 = cs t) {x3 x4 x5 : Int32} {r1 : Nat} (hr1 : is_Hamlet r1) {r2 : Nat} 
    (k1 : px_W E mX4_lumpsBehind (d + 1) 0 0 11 [.ref 41, .ref r1, .null, .int x3, .int x4, .int x5, .int 0] [] w Q) :
    px_W E mX4_lumpsBehind (d + 1) 0 0 8 [.ref 41, .ref r1, .null, .int x3, .int x4, .int x5, .null] [] w Q := by
  refine px_iconst dX4_lumpsBehind_8 ic_0 ?_
  refine px_istore (ls' := [.ref 41, .ref r1, .null, .int x3, .int x4, .int x5, .int 0]) dX4_lumpsBehind_9 ⟨by decide, rfl⟩ rfl ?_
  exact k1
theorem bX4_lumpsBehind_11 {E : px_E} {d : Nat} {w : pw_W} {Q : Option Value → pw_W → Prop} {t : ct_T} (hw : w.1 = cs t) {x3 x4 x5 x6 : Int32} {r1 : Nat} (hr1 : is_Hamlet r1) {r2 : Nat} 
    (k1 : x4 ≤ x6 → px_W E mX4_lumpsBehind (d + 1) 0 0 39 [.ref 41, .null, .null, .int x3, .null, .null, .null] [] w Q)
    (k2 : ¬ x4 ≤ x6 → px_Call E d 0 0 mX2_passDay [.ref r1, .ref 42, .ref (r1 + 9), .int x5] w (fun v w' => px_W E mX4_lumpsBehind (d + 1) 0 0 32 [.ref 41, .ref r1, .null, .int x3, .int x4, .int x5, .int x6] (v.toList ++ []) w' Q)) :
    px_W E mX4_lumpsBehind (d + 1) 0 0 11 [.ref 41, .ref r1, .null, .int x3, .int x4, .int x5, .int x6] [] w Q := by
  refine px_iload dX4_lumpsBehind_11 rfl ?_
  refine px_iload dX4_lumpsBehind_13 rfl ?_
  refine px_icmp_ge (tgt := 39) dX4_lumpsBehind_15 (by decide) (fun h1 => ?_) (fun h1 => ?_)
  ·
    exact px_forget (k1 h1) ⟨Or.inr rfl, Or.inl rfl, Or.inl rfl, Or.inr rfl, Or.inl rfl, Or.inl rfl, Or.inl rfl, trivial⟩
  ·
    refine px_aload_n dX4_lumpsBehind_18 rfl rfl ?_
    refine px_aload_n dX4_lumpsBehind_19 rfl rfl ?_
    refine px_getR (v := 42) dX4_lumpsBehind_20 fr_4_12 rfl (px_sh1 hw sh_41) (px_rf hw rf_41_0) (by decide) ?_
    refine px_aload_n dX4_lumpsBehind_23 rfl rfl ?_
    refine px_getR (v := (r1 + 9)) dX4_lumpsBehind_24 fr_4_26 rfl (px_sh1 hw hr1.sh) (px_rf hw hr1.rf11) (Nat.succ_ne_zero _) ?_
    refine px_iload dX4_lumpsBehind_27 rfl ?_
    exact px_callV (As := [.ref 42, .ref (r1 + 9), .int x5]) (st := []) (rc := 0) (rs := 0) (mc := 0) (ms := 0) dX4_lumpsBehind_29 lk_4_31 (px_sh1 hw hr1.sh) rfl rfl (Nat.le_of_ble_eq_true rfl) (k2 h1)
theorem bX4_lumpsBehind_32 {E : px_E} {d : Nat} {w : pw_W} {Q : Option Value → pw_W → Prop} {t : ct_T} (hw : w.1 = cs t) {x3 x4 x5 x6 y0 : Int32} {r1 : Nat} (hr1 : is_Hamlet r1) {r2 : Nat} 
    (k1 : px_W E mX4_lumpsBehind (d + 1) 0 0 11 [.ref 41, .ref r1, .null, .int x3, .int x4, .int x5, .int (x6 + 1)] [] w Q) :
    px_W E mX4_lumpsBehind (d + 1) 0 0 32 [.ref 41, .ref r1, .null, .int x3, .int x4, .int x5, .int x6] [.int y0] w Q := by
  refine px_pop dX4_lumpsBehind_32 rfl ?_
  refine px_iinc (ls' := [.ref 41, .ref r1, .null, .int x3, .int x4, .int x5, .int (x6 + 1)]) dX4_lumpsBehind_33 ⟨by decide, rfl⟩ rfl rfl rfl ?_
  refine px_goto (tgt := 11) dX4_lumpsBehind_36 (by decide) ?_
  exact k1
theorem bX4_lumpsBehind_39 {E : px_E} {d : Nat} {w : pw_W} {Q : Option Value → pw_W → Prop} {t : ct_T} (hw : w.1 = cs t) {x3 : Int32} {r1 : Nat} (hr1 : is_Hamlet r1) {r2 : Nat} (j1 : Nat) (hj1 : x3 = nI j1) (hl1 : j1 < 6)
    (k1 : Q (some (.int (pw_I w 43 j1))) w) :
    px_W E mX4_lumpsBehind (d + 1) 0 0 39 [.ref 41, .null, .null, .int x3, .null, .null, .null] [] w Q := by
  refine px_aload_n dX4_lumpsBehind_39 rfl rfl ?_
  refine px_getR (v := 42) dX4_lumpsBehind_40 fr_4_12 rfl (px_sh1 hw sh_41) (px_rf hw rf_41_0) (by decide) ?_
  refine px_getR (v := 43) dX4_lumpsBehind_43 fr_4_35 rfl (px_sh1 hw sh_42) (px_rf hw rf_42_0) (by decide) ?_
  refine px_iload_n dX4_lumpsBehind_46 rfl rfl ?_
  refine px_iald dX4_lumpsBehind_47 (px_sh2 hw sh_43) (by decide) j1 hj1 hl1 ?_
  exact px_ireturn dX4_lumpsBehind_48 rfl rfl k1
theorem dX4_firmBehind_0 : decode mX4_firmBehind.2.1 0 = .ok (.aload_n 0, 1) := by decide +kernel
theorem dX4_firmBehind_1 : decode mX4_firmBehind.2.1 1 = .ok (.getfield 12, 3) := by decide +kernel
theorem dX4_firmBehind_4 : decode mX4_firmBehind.2.1 4 = .ok (.aload_n 2, 1) := by decide +kernel
theorem dX4_firmBehind_5 : decode mX4_firmBehind.2.1 5 = .ok (.invokevirtual 22, 3) := by decide +kernel
theorem dX4_firmBehind_8 : decode mX4_firmBehind.2.1 8 = .ok (.aload_n 0, 1) := by decide +kernel
theorem dX4_firmBehind_9 : decode mX4_firmBehind.2.1 9 = .ok (.aload_n 1, 1) := by decide +kernel
theorem dX4_firmBehind_10 : decode mX4_firmBehind.2.1 10 = .ok (.aload_n 1, 1) := by decide +kernel
theorem dX4_firmBehind_11 : decode mX4_firmBehind.2.1 11 = .ok (.getfield 26, 3) := by decide +kernel
theorem dX4_firmBehind_14 : decode mX4_firmBehind.2.1 14 = .ok (.iload 4, 2) := by decide +kernel
theorem dX4_firmBehind_16 : decode mX4_firmBehind.2.1 16 = .ok (.invokevirtual 38, 3) := by decide +kernel
theorem dX4_firmBehind_19 : decode mX4_firmBehind.2.1 19 = .ok (.pop, 1) := by decide +kernel
theorem dX4_firmBehind_20 : decode mX4_firmBehind.2.1 20 = .ok (.aload_n 0, 1) := by decide +kernel
theorem dX4_firmBehind_21 : decode mX4_firmBehind.2.1 21 = .ok (.getfield 12, 3) := by decide +kernel
theorem dX4_firmBehind_24 : decode mX4_firmBehind.2.1 24 = .ok (.getfield 42, 3) := by decide +kernel
theorem dX4_firmBehind_27 : decode mX4_firmBehind.2.1 27 = .ok (.iload_n 3, 1) := by decide +kernel
theorem dX4_firmBehind_28 : decode mX4_firmBehind.2.1 28 = .ok (.iaload, 1) := by decide +kernel
theorem dX4_firmBehind_29 : decode mX4_firmBehind.2.1 29 = .ok (.ireturn, 1) := by decide +kernel
theorem bX4_firmBehind_0 {E : px_E} {d : Nat} {w : pw_W} {Q : Option Value → pw_W → Prop} {t : ct_T} (hw : w.1 = cs t) {x3 x4 : Int32} {r1 : Nat} (hr1 : is_Hamlet r1) {r2 : Nat} 
    (k1 : px_Call E d 0 0 mX8_copyFrom [.ref 42, .ref r2] w (fun v w' => px_W E mX4_firmBehind (d + 1) 0 0 8 [.ref 41, .ref r1, .null, .int x3, .int x4] (v.toList ++ []) w' Q)) :
    px_W E mX4_firmBehind (d + 1) 0 0 0 [.ref 41, .ref r1, .ref r2, .int x3, .int x4] [] w Q := by
  refine px_aload_n dX4_firmBehind_0 rfl rfl ?_
  refine px_getR (v := 42) dX4_firmBehind_1 fr_4_12 rfl (px_sh1 hw sh_41) (px_rf hw rf_41_0) (by decide) ?_
  refine px_aload_n dX4_firmBehind_4 rfl rfl ?_
  refine px_forget (ls' := [.ref 41, .ref r1, .null, .int x3, .int x4]) ?_ ⟨Or.inr rfl, Or.inr rfl, Or.inl rfl, Or.inr rfl, Or.inr rfl, trivial⟩
  exact px_callV (As := [.ref r2]) (st := []) (rc := 0) (rs := 0) (mc := 0) (ms := 0) dX4_firmBehind_5 lk_4_22 (px_sh1 hw sh_42) rfl rfl (Nat.le_of_ble_eq_true rfl) k1
theorem eX4_firmBehind {E : px_E} {d : Nat} {w : pw_W} {Q : Option Value → pw_W → Prop} {t : ct_T} (hw : w.1 = cs t) {x3 x4 : Int32} {r1 : Nat} (hr1 : is_Hamlet r1) {r2 : Nat} 
    (k1 : px_Call E d 0 0 mX8_copyFrom [.ref 42, .ref r2] w (fun v w' => px_W E mX4_firmBehind (d + 1) 0 0 8 [.ref 41, .ref r1, .null, .int x3, .int x4] (v.toList ++ []) w' Q)) :
    px_Call E (d + 1) 0 0 mX4_firmBehind [.ref 41, .ref r1, .ref r2, .int x3, .int x4] w Q :=
  px_enter (k := 0) (by decide) (Nat.le_of_ble_eq_true rfl) rfl (px_forget (bX4_firmBehind_0 hw hr1 k1) ⟨Or.inr rfl, Or.inr rfl, Or.inr rfl, Or.inr rfl, Or.inr rfl, trivial⟩)
theorem bX4_firmBehind_8 {E : px_E} {d : Nat} {w : pw_W} {Q : Option Value → pw_W → Prop} {t : ct_T} (hw : w.1 = cs t) {x3 x4 : Int32} {r1 : Nat} (hr1 : is_Hamlet r1) {r2 : Nat} 
    (k1 : px_Call E d 0 0 mX4_goOn [.ref 41, .ref r1, .ref (r1 + 9), .int x4] w (fun v w' => px_W E mX4_firmBehind (d + 1) 0 0 19 [.ref 41, .null, .null, .int x3, .null] (v.toList ++ []) w' Q)) :
    px_W E mX4_firmBehind (d + 1) 0 0 8 [.ref 41, .ref r1, .null, .int x3, .int x4] [] w Q := by
  refine px_aload_n dX4_firmBehind_8 rfl rfl ?_
  refine px_aload_n dX4_firmBehind_9 rfl rfl ?_
  refine px_aload_n dX4_firmBehind_10 rfl rfl ?_
  refine px_getR (v := (r1 + 9)) dX4_firmBehind_11 fr_4_26 rfl (px_sh1 hw hr1.sh) (px_rf hw hr1.rf11) (Nat.succ_ne_zero _) ?_
  refine px_iload dX4_firmBehind_14 rfl ?_
  refine px_forget (ls' := [.ref 41, .null, .null, .int x3, .null]) ?_ ⟨Or.inr rfl, Or.inl rfl, Or.inl rfl, Or.inr rfl, Or.inl rfl, trivial⟩
  exact px_callV (As := [.ref r1, .ref (r1 + 9), .int x4]) (st := []) (rc := 0) (rs := 0) (mc := 0) (ms := 0) dX4_firmBehind_16 lk_4_38 (px_sh1 hw sh_41) rfl rfl (Nat.le_of_ble_eq_true rfl) k1
theorem bX4_firmBehind_19 {E : px_E} {d : Nat} {w : pw_W} {Q : Option Value → pw_W → Prop} {t : ct_T} (hw : w.1 = cs t) {x3 y0 : Int32} {r1 : Nat} (hr1 : is_Hamlet r1) {r2 : Nat} (j1 : Nat) (hj1 : x3 = nI j1) (hl1 : j1 < 6)
    (k1 : Q (some (.int (pw_I w 44 j1))) w) :
    px_W E mX4_firmBehind (d + 1) 0 0 19 [.ref 41, .null, .null, .int x3, .null] [.int y0] w Q := by
  refine px_pop dX4_firmBehind_19 rfl ?_
  refine px_aload_n dX4_firmBehind_20 rfl rfl ?_
  refine px_getR (v := 42) dX4_firmBehind_21 fr_4_12 rfl (px_sh1 hw sh_41) (px_rf hw rf_41_0) (by decide) ?_
  refine px_getR (v := 44) dX4_firmBehind_24 fr_4_42 rfl (px_sh1 hw sh_42) (px_rf hw rf_42_1) (by decide) ?_
  refine px_iload_n dX4_firmBehind_27 rfl rfl ?_
  refine px_iald dX4_firmBehind_28 (px_sh2 hw sh_44) (by decide) j1 hj1 hl1 ?_
  exact px_ireturn dX4_firmBehind_29 rfl rfl k1
theorem dX4_hurtBehind_0 : decode mX4_hurtBehind.2.1 0 = .ok (.aload_n 0, 1) := by decide +kernel
theorem dX4_hurtBehind_1 : decode mX4_hurtBehind.2.1 1 = .ok (.getfield 12, 3) := by decide +kernel
theorem dX4_hurtBehind_4 : decode mX4_hurtBehind.2.1 4 = .ok (.aload_n 2, 1) := by decide +kernel
theorem dX4_hurtBehind_5 : decode mX4_hurtBehind.2.1 5 = .ok (.invokevirtual 22, 3) := by decide +kernel
theorem dX4_hurtBehind_8 : decode mX4_hurtBehind.2.1 8 = .ok (.aload_n 0, 1) := by decide +kernel
theorem dX4_hurtBehind_9 : decode mX4_hurtBehind.2.1 9 = .ok (.aload_n 1, 1) := by decide +kernel
theorem dX4_hurtBehind_10 : decode mX4_hurtBehind.2.1 10 = .ok (.aload_n 1, 1) := by decide +kernel
theorem dX4_hurtBehind_11 : decode mX4_hurtBehind.2.1 11 = .ok (.getfield 26, 3) := by decide +kernel
theorem dX4_hurtBehind_14 : decode mX4_hurtBehind.2.1 14 = .ok (.iload_n 3, 1) := by decide +kernel
theorem dX4_hurtBehind_15 : decode mX4_hurtBehind.2.1 15 = .ok (.invokevirtual 38, 3) := by decide +kernel
theorem dX4_hurtBehind_18 : decode mX4_hurtBehind.2.1 18 = .ok (.ireturn, 1) := by decide +kernel
theorem bX4_hurtBehind_0 {E : px_E} {d : Nat} {w : pw_W} {Q : Option Value → pw_W → Prop} {t : ct_T} (hw : w.1 = cs t) {x3 : Int32} {r1 : Nat} (hr1 : is_Hamlet r1) {r2 : Nat} 
    (k1 : px_Call E d 0 0 mX8_copyFrom [.ref 42, .ref r2] w (fun v w' => px_W E mX4_hurtBehind (d + 1) 0 0 8 [.ref 41, .ref r1, .null, .int x3] (v.toList ++ []) w' Q)) :
    px_W E mX4_hurtBehind (d + 1) 0 0 0 [.ref 41, .ref r1, .ref r2, .int x3] [] w Q := by
  refine px_aload_n dX4_hurtBehind_0 rfl rfl ?_
  refine px_getR (v := 42) dX4_hurtBehind_1 fr_4_12 rfl (px_sh1 hw sh_41) (px_rf hw rf_41_0) (by decide) ?_
  refine px_aload_n dX4_hurtBehind_4 rfl rfl ?_
  refine px_forget (ls' := [.ref 41, .ref r1, .null, .int x3]) ?_ ⟨Or.inr rfl, Or.inr rfl, Or.inl rfl, Or.inr rfl, trivial⟩
  exact px_callV (As := [.ref r2]) (st := []) (rc := 0) (rs := 0) (mc := 0) (ms := 0) dX4_hurtBehind_5 lk_4_22 (px_sh1 hw sh_42) rfl rfl (Nat.le_of_ble_eq_true rfl) k1
theorem eX4_hurtBehind {E : px_E} {d : Nat} {w : pw_W} {Q : Option Value → pw_W → Prop} {t : ct_T} (hw : w.1 = cs t) {x3 : Int32} {r1 : Nat} (hr1 : is_Hamlet r1) {r2 : Nat} 
    (k1 : px_Call E d 0 0 mX8_copyFrom [.ref 42, .ref r2] w (fun v w' => px_W E mX4_hurtBehind (d + 1) 0 0 8 [.ref 41, .ref r1, .null, .int x3] (v.toList ++ []) w' Q)) :
    px_Call E (d + 1) 0 0 mX4_hurtBehind [.ref 41, .ref r1, .ref r2, .int x3] w Q :=
  px_enter (k := 0) (by decide) (Nat.le_of_ble_eq_true rfl) rfl (px_forget (bX4_hurtBehind_0 hw hr1 k1) ⟨Or.inr rfl, Or.inr rfl, Or.inr rfl, Or.inr rfl, trivial⟩)
theorem bX4_hurtBehind_8 {E : px_E} {d : Nat} {w : pw_W} {Q : Option Value → pw_W → Prop} {t : ct_T} (hw : w.1 = cs t) {x3 : Int32} {r1 : Nat} (hr1 : is_Hamlet r1) {r2 : Nat} 
    (k1 : px_Call E d 0 0 mX4_goOn [.ref 41, .ref r1, .ref (r1 + 9), .int x3] w (fun v w' => px_W E mX4_hurtBehind (d + 1) 0 0 18 [.null, .null, .null, .null] (v.toList ++ []) w' Q)) :
    px_W E mX4_hurtBehind (d + 1) 0 0 8 [.ref 41, .ref r1, .null, .int x3] [] w Q := by
  refine px_aload_n dX4_hurtBehind_8 rfl rfl ?_
  refine px_aload_n dX4_hurtBehind_9 rfl rfl ?_
  refine px_aload_n dX4_hurtBehind_10 rfl rfl ?_
  refine px_getR (v := (r1 + 9)) dX4_hurtBehind_11 fr_4_26 rfl (px_sh1 hw hr1.sh) (px_rf hw hr1.rf11) (Nat.succ_ne_zero _) ?_
  refine px_iload_n dX4_hurtBehind_14 rfl rfl ?_
  refine px_forget (ls' := [.null, .null, .null, .null]) ?_ ⟨Or.inl rfl, Or.inl rfl, Or.inl rfl, Or.inl rfl, trivial⟩
  exact px_callV (As := [.ref r1, .ref (r1 + 9), .int x3]) (st := []) (rc := 0) (rs := 0) (mc := 0) (ms := 0) dX4_hurtBehind_15 lk_4_38 (px_sh1 hw sh_41) rfl rfl (Nat.le_of_ble_eq_true rfl) k1
theorem bX4_hurtBehind_18 {E : px_E} {d : Nat} {w : pw_W} {Q : Option Value → pw_W → Prop} {t : ct_T} (hw : w.1 = cs t) {y0 : Int32} {r1 : Nat} (hr1 : is_Hamlet r1) {r2 : Nat} 
    (k1 : Q (some (.int y0)) w) :
    px_W E mX4_hurtBehind (d + 1) 0 0 18 [.null, .null, .null, .null] [.int y0] w Q := by
  exact px_ireturn dX4_hurtBehind_18 rfl rfl k1
theorem dX4_daysTillAbed_0 : decode mX4_daysTillAbed.2.1 0 = .ok (.aload_n 0, 1) := by decide +kernel
theorem dX4_daysTillAbed_1 : decode mX4_daysTillAbed.2.1 1 = .ok (.getfield 12, 3) := by decide +kernel
theorem dX4_daysTillAbed_4 : decode mX4_daysTillAbed.2.1 4 = .ok (.aload_n 2, 1) := by decide +kernel
theorem dX4_daysTillAbed_5 : decode mX4_daysTillAbed.2.1 5 = .ok (.invokevirtual 22, 3) := by decide +kernel
theorem dX4_daysTillAbed_8 : decode mX4_daysTillAbed.2.1 8 = .ok (.aload_n 0, 1) := by decide +kernel
theorem dX4_daysTillAbed_9 : decode mX4_daysTillAbed.2.1 9 = .ok (.aload_n 1, 1) := by decide +kernel
theorem dX4_daysTillAbed_10 : decode mX4_daysTillAbed.2.1 10 = .ok (.iconst 1, 1) := by decide +kernel
theorem dX4_daysTillAbed_11 : decode mX4_daysTillAbed.2.1 11 = .ok (.iload_n 3, 1) := by decide +kernel
theorem dX4_daysTillAbed_12 : decode mX4_daysTillAbed.2.1 12 = .ok (.ishl, 1) := by decide +kernel
theorem dX4_daysTillAbed_13 : decode mX4_daysTillAbed.2.1 13 = .ok (.iload 4, 2) := by decide +kernel
theorem dX4_daysTillAbed_15 : decode mX4_daysTillAbed.2.1 15 = .ok (.invokevirtual 45, 3) := by decide +kernel
theorem dX4_daysTillAbed_18 : decode mX4_daysTillAbed.2.1 18 = .ok (.ireturn, 1) := by decide +kernel
theorem bX4_daysTillAbed_0 {E : px_E} {d : Nat} {w : pw_W} {Q : Option Value → pw_W → Prop} {t : ct_T} (hw : w.1 = cs t) {x3 x4 : Int32} {r1 : Nat} {r2 : Nat} 
    (k1 : px_Call E d 0 0 mX8_copyFrom [.ref 42, .ref r2] w (fun v w' => px_W E mX4_daysTillAbed (d + 1) 0 0 8 [.ref 41, .ref r1, .null, .int x3, .int x4] (v.toList ++ []) w' Q)) :
    px_W E mX4_daysTillAbed (d + 1) 0 0 0 [.ref 41, .ref r1, .ref r2, .int x3, .int x4] [] w Q := by
  refine px_aload_n dX4_daysTillAbed_0 rfl rfl ?_
  refine px_getR (v := 42) dX4_daysTillAbed_1 fr_4_12 rfl (px_sh1 hw sh_41) (px_rf hw rf_41_0) (by decide) ?_
  refine px_aload_n dX4_daysTillAbed_4 rfl rfl ?_
  refine px_forget (ls' := [.ref 41, .ref r1, .null, .int x3, .int x4]) ?_ ⟨Or.inr rfl, Or.inr rfl, Or.inl rfl, Or.inr rfl, Or.inr rfl, trivial⟩
  exact px_callV (As := [.ref r2]) (st := []) (rc := 0) (rs := 0) (mc := 0) (ms := 0) dX4_daysTillAbed_5 lk_4_22 (px_sh1 hw sh_42) rfl rfl (Nat.le_of_ble_eq_true rfl) k1
theorem eX4_daysTillAbed {E : px_E} {d : Nat} {w : pw_W} {Q : Option Value → pw_W → Prop} {t : ct_T} (hw : w.1 = cs t) {x3 x4 : Int32} {r1 : Nat} {r2 : Nat} 
    (k1 : px_Call E d 0 0 mX8_copyFrom [.ref 42, .ref r2] w (fun v w' => px_W E mX4_daysTillAbed (d + 1) 0 0 8 [.ref 41, .ref r1, .null, .int x3, .int x4] (v.toList ++ []) w' Q)) :
    px_Call E (d + 1) 0 0 mX4_daysTillAbed [.ref 41, .ref r1, .ref r2, .int x3, .int x4] w Q :=
  px_enter (k := 0) (by decide) (Nat.le_of_ble_eq_true rfl) rfl (px_forget (bX4_daysTillAbed_0 hw k1) ⟨Or.inr rfl, Or.inr rfl, Or.inr rfl, Or.inr rfl, Or.inr rfl, trivial⟩)
theorem bX4_daysTillAbed_8 {E : px_E} {d : Nat} {w : pw_W} {Q : Option Value → pw_W → Prop} {t : ct_T} (hw : w.1 = cs t) {x3 x4 : Int32} {r1 : Nat} {r2 : Nat} 
    (k1 : px_Call E d 0 0 mX4_goOnTillAbed [.ref 41, .ref r1, .int (js_shl 1 x3), .int x4] w (fun v w' => px_W E mX4_daysTillAbed (d + 1) 0 0 18 [.null, .null, .null, .null, .null] (v.toList ++ []) w' Q)) :
    px_W E mX4_daysTillAbed (d + 1) 0 0 8 [.ref 41, .ref r1, .null, .int x3, .int x4] [] w Q := by
  refine px_aload_n dX4_daysTillAbed_8 rfl rfl ?_
  refine px_aload_n dX4_daysTillAbed_9 rfl rfl ?_
  refine px_iconst dX4_daysTillAbed_10 ic_1 ?_
  refine px_iload_n dX4_daysTillAbed_11 rfl rfl ?_
  refine px_ishl dX4_daysTillAbed_12 ?_
  refine px_iload dX4_daysTillAbed_13 rfl ?_
  refine px_forget (ls' := [.null, .null, .null, .null, .null]) ?_ ⟨Or.inl rfl, Or.inl rfl, Or.inl rfl, Or.inl rfl, Or.inl rfl, trivial⟩
  exact px_callV (As := [.ref r1, .int (js_shl 1 x3), .int x4]) (st := []) (rc := 0) (rs := 0) (mc := 0) (ms := 0) dX4_daysTillAbed_15 lk_4_45 (px_sh1 hw sh_41) rfl rfl (Nat.le_of_ble_eq_true rfl) k1
theorem bX4_daysTillAbed_18 {E : px_E} {d : Nat} {w : pw_W} {Q : Option Value → pw_W → Prop} {t : ct_T} (hw : w.1 = cs t) {y0 : Int32} {r1 : Nat} {r2 : Nat} 
    (k1 : Q (some (.int y0)) w) :
    px_W E mX4_daysTillAbed (d + 1) 0 0 18 [.null, .null, .null, .null, .null] [.int y0] w Q := by
  exact px_ireturn dX4_daysTillAbed_18 rfl rfl k1
theorem dX4_leastToForbid_0 : decode mX4_leastToForbid.2.1 0 = .ok (.iconst 0, 1) := by decide +kernel
theorem dX4_leastToForbid_1 : decode mX4_leastToForbid.2.1 1 = .ok (.istore 4, 2) := by decide +kernel
theorem dX4_leastToForbid_3 : decode mX4_leastToForbid.2.1 3 = .ok (.iload 4, 2) := by decide +kernel
theorem dX4_leastToForbid_5 : decode mX4_leastToForbid.2.1 5 = .ok (.aload_n 1, 1) := by decide +kernel
theorem dX4_leastToForbid_6 : decode mX4_leastToForbid.2.1 6 = .ok (.getfield 49, 3) := by decide +kernel
theorem dX4_leastToForbid_9 : decode mX4_leastToForbid.2.1 9 = .ok (.if_icmp .gt 88, 3) := by decide +kernel
theorem dX4_leastToForbid_12 : decode mX4_leastToForbid.2.1 12 = .ok (.iconst 0, 1) := by decide +kernel
theorem dX4_leastToForbid_13 : decode mX4_leastToForbid.2.1 13 = .ok (.istore 5, 2) := by decide +kernel
theorem dX4_leastToForbid_15 : decode mX4_leastToForbid.2.1 15 = .ok (.iload 5, 2) := by decide +kernel
theorem dX4_leastToForbid_17 : decode mX4_leastToForbid.2.1 17 = .ok (.iconst 1, 1) := by decide +kernel
theorem dX4_leastToForbid_18 : decode mX4_leastToForbid.2.1 18 = .ok (.aload_n 1, 1) := by decide +kernel
theorem dX4_leastToForbid_19 : decode mX4_leastToForbid.2.1 19 = .ok (.getfield 49, 3) := by decide +kernel
theorem dX4_leastToForbid_22 : decode mX4_leastToForbid.2.1 22 = .ok (.ishl, 1) := by decide +kernel
theorem dX4_leastToForbid_23 : decode mX4_leastToForbid.2.1 23 = .ok (.if_icmp .ge 68, 3) := by decide +kernel
theorem dX4_leastToForbid_26 : decode mX4_leastToForbid.2.1 26 = .ok (.iload 5, 2) := by decide +kernel
theorem dX4_leastToForbid_28 : decode mX4_leastToForbid.2.1 28 = .ok (.invokestatic 53, 3) := by decide +kernel
theorem dX4_leastToForbid_31 : decode mX4_leastToForbid.2.1 31 = .ok (.iload 4, 2) := by decide +kernel
theorem dX4_leastToForbid_33 : decode mX4_leastToForbid.2.1 33 = .ok (.if_icmp .ne 52, 3) := by decide +kernel
theorem dX4_leastToForbid_36 : decode mX4_leastToForbid.2.1 36 = .ok (.iload 5, 2) := by decide +kernel
theorem dX4_leastToForbid_38 : decode mX4_leastToForbid.2.1 38 = .ok (.aload_n 2, 1) := by decide +kernel
theorem dX4_leastToForbid_39 : decode mX4_leastToForbid.2.1 39 = .ok (.getfield 59, 3) := by decide +kernel
theorem dX4_leastToForbid_42 : decode mX4_leastToForbid.2.1 42 = .ok (.iand, 1) := by decide +kernel
theorem dX4_leastToForbid_43 : decode mX4_leastToForbid.2.1 43 = .ok (.ifCond .ne 42, 3) := by decide +kernel
theorem dX4_leastToForbid_46 : decode mX4_leastToForbid.2.1 46 = .ok (.aload_n 0, 1) := by decide +kernel
theorem dX4_leastToForbid_47 : decode mX4_leastToForbid.2.1 47 = .ok (.getfield 12, 3) := by decide +kernel
theorem dX4_leastToForbid_50 : decode mX4_leastToForbid.2.1 50 = .ok (.aload_n 2, 1) := by decide +kernel
theorem dX4_leastToForbid_51 : decode mX4_leastToForbid.2.1 51 = .ok (.invokevirtual 22, 3) := by decide +kernel
theorem dX4_leastToForbid_54 : decode mX4_leastToForbid.2.1 54 = .ok (.aload_n 0, 1) := by decide +kernel
theorem dX4_leastToForbid_55 : decode mX4_leastToForbid.2.1 55 = .ok (.getfield 12, 3) := by decide +kernel
theorem dX4_leastToForbid_58 : decode mX4_leastToForbid.2.1 58 = .ok (.dup, 1) := by decide +kernel
theorem dX4_leastToForbid_59 : decode mX4_leastToForbid.2.1 59 = .ok (.getfield 59, 3) := by decide +kernel
theorem dX4_leastToForbid_62 : decode mX4_leastToForbid.2.1 62 = .ok (.iload 5, 2) := by decide +kernel
theorem dX4_leastToForbid_64 : decode mX4_leastToForbid.2.1 64 = .ok (.ior, 1) := by decide +kernel
theorem dX4_leastToForbid_65 : decode mX4_leastToForbid.2.1 65 = .ok (.putfield 59, 3) := by decide +kernel
theorem dX4_leastToForbid_68 : decode mX4_leastToForbid.2.1 68 = .ok (.aload_n 0, 1) := by decide +kernel
theorem dX4_leastToForbid_69 : decode mX4_leastToForbid.2.1 69 = .ok (.aload_n 1, 1) := by decide +kernel
theorem dX4_leastToForbid_70 : decode mX4_leastToForbid.2.1 70 = .ok (.aload_n 1, 1) := by decide +kernel
theorem dX4_leastToForbid_71 : decode mX4_leastToForbid.2.1 71 = .ok (.invokevirtual 62, 3) := by decide +kernel
theorem dX4_leastToForbid_74 : decode mX4_leastToForbid.2.1 74 = .ok (.iload_n 3, 1) := by decide +kernel
theorem dX4_leastToForbid_75 : decode mX4_leastToForbid.2.1 75 = .ok (.invokevirtual 45, 3) := by decide +kernel
theorem dX4_leastToForbid_78 : decode mX4_leastToForbid.2.1 78 = .ok (.iconst (-1), 1) := by decide +kernel
theorem dX4_leastToForbid_79 : decode mX4_leastToForbid.2.1 79 = .ok (.if_icmp .ne 6, 3) := by decide +kernel
theorem dX4_leastToForbid_82 : decode mX4_leastToForbid.2.1 82 = .ok (.iload 5, 2) := by decide +kernel
theorem dX4_leastToForbid_84 : decode mX4_leastToForbid.2.1 84 = .ok (.ireturn, 1) := by decide +kernel
theorem dX4_leastToForbid_85 : decode mX4_leastToForbid.2.1 85 = .ok (.iinc 5 1, 3) := by decide +kernel
theorem dX4_leastToForbid_88 : decode mX4_leastToForbid.2.1 88 = .ok (.goto (-73), 3) := by decide +kernel
theorem dX4_leastToForbid_91 : decode mX4_leastToForbid.2.1 91 = .ok (.iinc 4 1, 3) := by decide +kernel
theorem dX4_leastToForbid_94 : decode mX4_leastToForbid.2.1 94 = .ok (.goto (-91), 3) := by decide +kernel
theorem dX4_leastToForbid_97 : decode mX4_leastToForbid.2.1 97 = .ok (.iconst (-1), 1) := by decide +kernel
theorem dX4_leastToForbid_98 : decode mX4_leastToForbid.2.1 98 = .ok (.ireturn, 1) := by decide +kernel
theorem bX4_leastToForbid_0 {E : px_E} {d : Nat} {w : pw_W} {Q : Option Value → pw_W → Prop} {t : ct_T} (hw : w.1 = cs t) {x3 : Int32} {r1 : Nat} (hr1 : is_Hamlet r1) {r2 : Nat} (hr2 : is_State r2) 
    (k1 : px_W E mX4_leastToForbid (d + 2) 0 0 3 [.ref 41, .ref r1, .ref r2, .int x3, .int 0, .null] [] w Q) :
    px_W E mX4_leastToForbid (d + 2) 0 0 0 [.ref 41, .ref r1, .ref r2, .int x3, .null, .null] [] w Q := by
  refine px_iconst dX4_leastToForbid_0 ic_0 ?_
  refine px_istore (ls' := [.ref 41, .ref r1, .ref r2, .int x3, .int 0, .null]) dX4_leastToForbid_1 ⟨by decide, rfl⟩ rfl ?_
  exact k1
theorem eX4_leastToForbid {E : px_E} {d : Nat} {w : pw_W} {Q : Option Value → pw_W → Prop} {t : ct_T} (hw : w.1 = cs t) {x3 : Int32} {r1 : Nat} (hr1 : is_Hamlet r1) {r2 : Nat} (hr2 : is_State r2) 
    (k1 : px_W E mX4_leastToForbid (d + 2) 0 0 3 [.ref 41, .ref r1, .ref r2, .int x3, .int 0, .null] [] w Q) :
    px_Call E (d + 2) 0 0 mX4_leastToForbid [.ref 41, .ref r1, .ref r2, .int x3] w Q :=
  px_enter (k := 2) (by decide) (Nat.le_of_ble_eq_true rfl) rfl (px_forget (bX4_leastToForbid_0 hw hr1 hr2 k1) ⟨Or.inr rfl, Or.inr rfl, Or.inr rfl, Or.inr rfl, Or.inl rfl, Or.inl rfl, trivial⟩)
theorem bX4_leastToForbid_3 {E : px_E} {d : Nat} {w : pw_W} {Q : Option Value → pw_W → Prop} {t : ct_T} (hw : w.1 = cs t) {x3 x4 : Int32} {r1 : Nat} (hr1 : is_Hamlet r1) {r2 : Nat} (hr2 : is_State r2) 
    (k1 : (pw_I w r1 4) < x4 → Q (some (.int (-1))) w)
    (k2 : ¬ (pw_I w r1 4) < x4 → px_W E mX4_leastToForbid (d + 2) 0 0 15 [.ref 41, .ref r1, .ref r2, .int x3, .int x4, .int 0] [] w Q) :
    px_W E mX4_leastToForbid (d + 2) 0 0 3 [.ref 41, .ref r1, .ref r2, .int x3, .int x4, .null] [] w Q := by
  refine px_iload dX4_leastToForbid_3 rfl ?_
  refine px_aload_n dX4_leastToForbid_5 rfl rfl ?_
  refine px_getI dX4_leastToForbid_6 fr_4_49 rfl (px_sh1 hw hr1.sh) ?_
  refine px_icmp_gt (tgt := 97) dX4_leastToForbid_9 (by decide) (fun h1 => ?_) (fun h1 => ?_)
  ·
    refine px_iconst dX4_leastToForbid_97 ic_m1 ?_
    exact px_ireturn dX4_leastToForbid_98 rfl rfl (k1 h1)
  ·
    refine px_iconst dX4_leastToForbid_12 ic_0 ?_
    refine px_istore (ls' := [.ref 41, .ref r1, .ref r2, .int x3, .int x4, .int 0]) dX4_leastToForbid_13 ⟨by decide, rfl⟩ rfl ?_
    exact (k2 h1)
theorem bX4_leastToForbid_15 {E : px_E} {d : Nat} {w : pw_W} {Q : Option Value → pw_W → Prop} {t : ct_T} (hw : w.1 = cs t) {x3 x4 x5 : Int32} {r1 : Nat} (hr1 : is_Hamlet r1) {r2 : Nat} (hr2 : is_State r2) 
    (k1 : (js_shl 1 (pw_I w r1 4)) ≤ x5 → px_W E mX4_leastToForbid (d + 2) 0 0 3 [.ref 41, .ref r1, .ref r2, .int x3, .int (x4 + 1), .null] [] w Q)
    (k2 : ¬ (js_shl 1 (pw_I w r1 4)) ≤ x5 → ¬ (hJ6_bitCount_0f7a4 x5) = x4 → px_W E mX4_leastToForbid (d + 2) 0 0 85 [.ref 41, .ref r1, .ref r2, .int x3, .int x4, .int x5] [] w Q)
    (k3 : ¬ (js_shl 1 (pw_I w r1 4)) ≤ x5 → (hJ6_bitCount_0f7a4 x5) = x4 → ¬ (x5 &&& (pw_I w r2 2)) = 0 → px_W E mX4_leastToForbid (d + 2) 0 0 85 [.ref 41, .ref r1, .ref r2, .int x3, .int x4, .int x5] [] w Q)
    (k4 : ¬ (js_shl 1 (pw_I w r1 4)) ≤ x5 → (hJ6_bitCount_0f7a4 x5) = x4 → (x5 &&& (pw_I w r2 2)) = 0 → px_Call E (d + 1) 0 0 mX8_copyFrom [.ref 42, .ref r2] w (fun v w' => px_W E mX4_leastToForbid (d + 2) 0 0 54 [.ref 41, .ref r1, .ref r2, .int x3, .int x4, .int x5] (v.toList ++ []) w' Q)) :
    px_W E mX4_leastToForbid (d + 2) 0 0 15 [.ref 41, .ref r1, .ref r2, .int x3, .int x4, .int x5] [] w Q := by
  refine px_iload dX4_leastToForbid_15 rfl ?_
  refine px_iconst dX4_leastToForbid_17 ic_1 ?_
  refine px_aload_n dX4_leastToForbid_18 rfl rfl ?_
  refine px_getI dX4_leastToForbid_19 fr_4_49 rfl (px_sh1 hw hr1.sh) ?_
  refine px_ishl dX4_leastToForbid_22 ?_
  refine px_icmp_ge (tgt := 91) dX4_leastToForbid_23 (by decide) (fun h1 => ?_) (fun h1 => ?_)
  ·
    refine px_iinc (ls' := [.ref 41, .ref r1, .ref r2, .int x3, .int (x4 + 1), .int x5]) dX4_leastToForbid_91 ⟨by decide, rfl⟩ rfl rfl rfl ?_
    refine px_goto (tgt := 3) dX4_leastToForbid_94 (by decide) ?_
    exact px_forget (k1 h1) ⟨Or.inr rfl, Or.inr rfl, Or.inr rfl, Or.inr rfl, Or.inr rfl, Or.inl rfl, trivial⟩
  ·
    refine px_iload dX4_leastToForbid_26 rfl ?_
    refine px_callS (As := [.int x5]) (st := []) (rc := 0) (rs := 0) (mc := 0) (ms := 0) dX4_leastToForbid_28 lk_4_53 rfl rfl (Nat.le_of_ble_eq_true rfl) (sJ6_bitCount_0f7a4 ?_)
    show px_W E mX4_leastToForbid (d + 2) 0 0 31 [.ref 41, .ref r1, .ref r2, .int x3, .int x4, .int x5] [.int (hJ6_bitCount_0f7a4 x5)] w Q
    refine px_iload dX4_leastToForbid_31 rfl ?_
    refine px_icmp_ne (tgt := 85) dX4_leastToForbid_33 (by decide) (fun h2 => ?_) (fun h2 => ?_)
    ·
      exact (k2 h1 h2)
    ·
      refine px_iload dX4_leastToForbid_36 rfl ?_
      refine px_aload_n dX4_leastToForbid_38 rfl rfl ?_
      refine px_getI dX4_leastToForbid_39 fr_4_59 rfl (px_sh1 hw hr2.sh) ?_
      refine px_iand dX4_leastToForbid_42 ?_
      refine px_if_ne (tgt := 85) dX4_leastToForbid_43 (by decide) (fun h3 => ?_) (fun h3 => ?_)
      ·
        exact (k3 h1 h2 h3)
      ·
        refine px_aload_n dX4_leastToForbid_46 rfl rfl ?_
        refine px_getR (v := 42) dX4_leastToForbid_47 fr_4_12 rfl (px_sh1 hw sh_41) (px_rf hw rf_41_0) (by decide) ?_
        refine px_aload_n dX4_leastToForbid_50 rfl rfl ?_
        exact px_callV (As := [.ref r2]) (st := []) (rc := 0) (rs := 0) (mc := 0) (ms := 0) dX4_leastToForbid_51 lk_4_22 (px_sh1 hw sh_42) rfl rfl (Nat.le_of_ble_eq_true rfl) (k4 h1 h2 h3)
theorem bX4_leastToForbid_54 {E : px_E} {d : Nat} {w : pw_W} {Q : Option Value → pw_W → Prop} {t : ct_T} (hw : w.1 = cs t) {x3 x4 x5 : Int32} {r1 : Nat} (hr1 : is_Hamlet r1) {r2 : Nat} (hr2 : is_State r2) 
    (k1 : px_Call E (d + 1) 0 0 mX4_goOnTillAbed [.ref 41, .ref r1, .int (hX2_allPeople (pw_sI w 42 2 ((pw_I w 42 2) ||| x5)) r1), .int x3] (pw_sI w 42 2 ((pw_I w 42 2) ||| x5)) (fun v w' => px_W E mX4_leastToForbid (d + 2) 0 0 78 [.ref 41, .ref r1, .ref r2, .int x3, .int x4, .int x5] (v.toList ++ []) w' Q)) :
    px_W E mX4_leastToForbid (d + 2) 0 0 54 [.ref 41, .ref r1, .ref r2, .int x3, .int x4, .int x5] [] w Q := by
  refine px_aload_n dX4_leastToForbid_54 rfl rfl ?_
  refine px_getR (v := 42) dX4_leastToForbid_55 fr_4_12 rfl (px_sh1 hw sh_41) (px_rf hw rf_41_0) (by decide) ?_
  refine px_dup dX4_leastToForbid_58 rfl ?_
  refine px_getI dX4_leastToForbid_59 fr_4_59 rfl (px_sh1 hw sh_42) ?_
  refine px_iload dX4_leastToForbid_62 rfl ?_
  refine px_ior dX4_leastToForbid_64 ?_
  refine px_putI dX4_leastToForbid_65 fl_4_59 (Or.inl rfl) rfl (px_sh1 hw sh_42) rfl rfl (by omega) ?_
  refine px_aload_n dX4_leastToForbid_68 rfl rfl ?_
  refine px_aload_n dX4_leastToForbid_69 rfl rfl ?_
  refine px_aload_n dX4_leastToForbid_70 rfl rfl ?_
  refine px_callV (As := []) (st := [.ref r1, .ref 41]) (rc := 0) (rs := 0) (mc := 0) (ms := 0) dX4_leastToForbid_71 lk_4_62 (px_sh1 (hI hw) hr1.sh) rfl rfl (Nat.le_of_ble_eq_true rfl) (sX2_allPeople (w := (pw_sI w 42 2 ((pw_I w 42 2) ||| x5))) (hI hw) hr1 ?_)
  show px_W E mX4_leastToForbid (d + 2) 0 0 74 [.ref 41, .ref r1, .ref r2, .int x3, .int x4, .int x5] [.int (hX2_allPeople (pw_sI w 42 2 ((pw_I w 42 2) ||| x5)) r1), .ref r1, .ref 41] (pw_sI w 42 2 ((pw_I w 42 2) ||| x5)) Q
  refine px_iload_n dX4_leastToForbid_74 rfl rfl ?_
  exact px_callV (As := [.ref r1, .int (hX2_allPeople (pw_sI w 42 2 ((pw_I w 42 2) ||| x5)) r1), .int x3]) (st := []) (rc := 0) (rs := 0) (mc := 0) (ms := 0) dX4_leastToForbid_75 lk_4_45 (px_sh1 (hI hw) sh_41) rfl rfl (Nat.le_of_ble_eq_true rfl) k1
theorem bX4_leastToForbid_78 {E : px_E} {d : Nat} {w : pw_W} {Q : Option Value → pw_W → Prop} {t : ct_T} (hw : w.1 = cs t) {x3 x4 x5 y0 : Int32} {r1 : Nat} (hr1 : is_Hamlet r1) {r2 : Nat} (hr2 : is_State r2) 
    (k1 : ¬ y0 = (-1) → px_W E mX4_leastToForbid (d + 2) 0 0 85 [.ref 41, .ref r1, .ref r2, .int x3, .int x4, .int x5] [] w Q)
    (k2 : y0 = (-1) → Q (some (.int x5)) w) :
    px_W E mX4_leastToForbid (d + 2) 0 0 78 [.ref 41, .ref r1, .ref r2, .int x3, .int x4, .int x5] [.int y0] w Q := by
  refine px_iconst dX4_leastToForbid_78 ic_m1 ?_
  refine px_icmp_ne (tgt := 85) dX4_leastToForbid_79 (by decide) (fun h1 => ?_) (fun h1 => ?_)
  ·
    exact (k1 h1)
  ·
    refine px_iload dX4_leastToForbid_82 rfl ?_
    exact px_ireturn dX4_leastToForbid_84 rfl rfl (k2 h1)
theorem bX4_leastToForbid_85 {E : px_E} {d : Nat} {w : pw_W} {Q : Option Value → pw_W → Prop} {t : ct_T} (hw : w.1 = cs t) {x3 x4 x5 : Int32} {r1 : Nat} (hr1 : is_Hamlet r1) {r2 : Nat} (hr2 : is_State r2) 
    (k1 : px_W E mX4_leastToForbid (d + 2) 0 0 15 [.ref 41, .ref r1, .ref r2, .int x3, .int x4, .int (x5 + 1)] [] w Q) :
    px_W E mX4_leastToForbid (d + 2) 0 0 85 [.ref 41, .ref r1, .ref r2, .int x3, .int x4, .int x5] [] w Q := by
  refine px_iinc (ls' := [.ref 41, .ref r1, .ref r2, .int x3, .int x4, .int (x5 + 1)]) dX4_leastToForbid_85 ⟨by decide, rfl⟩ rfl rfl rfl ?_
  refine px_goto (tgt := 15) dX4_leastToForbid_88 (by decide) ?_
  exact k1
theorem dX4_bestOrder_0 : decode mX4_bestOrder.2.1 0 = .ok (.iload_n 3, 1) := by decide +kernel
theorem dX4_bestOrder_1 : decode mX4_bestOrder.2.1 1 = .ok (.bipush 6, 2) := by decide +kernel
theorem dX4_bestOrder_3 : decode mX4_bestOrder.2.1 3 = .ok (.imul, 1) := by decide +kernel
theorem dX4_bestOrder_4 : decode mX4_bestOrder.2.1 4 = .ok (.istore 6, 2) := by decide +kernel
theorem dX4_bestOrder_6 : decode mX4_bestOrder.2.1 6 = .ok (.aload_n 1, 1) := by decide +kernel
theorem dX4_bestOrder_7 : decode mX4_bestOrder.2.1 7 = .ok (.getfield 66, 3) := by decide +kernel
theorem dX4_bestOrder_10 : decode mX4_bestOrder.2.1 10 = .ok (.iload_n 3, 1) := by decide +kernel
theorem dX4_bestOrder_11 : decode mX4_bestOrder.2.1 11 = .ok (.iaload, 1) := by decide +kernel
theorem dX4_bestOrder_12 : decode mX4_bestOrder.2.1 12 = .ok (.istore 7, 2) := by decide +kernel
theorem dX4_bestOrder_14 : decode mX4_bestOrder.2.1 14 = .ok (.aload_n 1, 1) := by decide +kernel
theorem dX4_bestOrder_15 : decode mX4_bestOrder.2.1 15 = .ok (.getfield 26, 3) := by decide +kernel
theorem dX4_bestOrder_18 : decode mX4_bestOrder.2.1 18 = .ok (.iconst 0, 1) := by decide +kernel
theorem dX4_bestOrder_19 : decode mX4_bestOrder.2.1 19 = .ok (.aload_n 0, 1) := by decide +kernel
theorem dX4_bestOrder_20 : decode mX4_bestOrder.2.1 20 = .ok (.getfield 18, 3) := by decide +kernel
theorem dX4_bestOrder_23 : decode mX4_bestOrder.2.1 23 = .ok (.iconst 0, 1) := by decide +kernel
theorem dX4_bestOrder_24 : decode mX4_bestOrder.2.1 24 = .ok (.aload_n 0, 1) := by decide +kernel
theorem dX4_bestOrder_25 : decode mX4_bestOrder.2.1 25 = .ok (.getfield 18, 3) := by decide +kernel
theorem dX4_bestOrder_28 : decode mX4_bestOrder.2.1 28 = .ok (.arraylength, 1) := by decide +kernel
theorem dX4_bestOrder_29 : decode mX4_bestOrder.2.1 29 = .ok (.invokestatic 69, 3) := by decide +kernel
theorem dX4_bestOrder_32 : decode mX4_bestOrder.2.1 32 = .ok (.aload_n 0, 1) := by decide +kernel
theorem dX4_bestOrder_33 : decode mX4_bestOrder.2.1 33 = .ok (.iload 6, 2) := by decide +kernel
theorem dX4_bestOrder_35 : decode mX4_bestOrder.2.1 35 = .ok (.iload 7, 2) := by decide +kernel
theorem dX4_bestOrder_37 : decode mX4_bestOrder.2.1 37 = .ok (.invokevirtual 75, 3) := by decide +kernel
theorem dX4_bestOrder_40 : decode mX4_bestOrder.2.1 40 = .ok (.ldc 79, 2) := by decide +kernel
theorem dX4_bestOrder_42 : decode mX4_bestOrder.2.1 42 = .ok (.istore 8, 2) := by decide +kernel
theorem dX4_bestOrder_44 : decode mX4_bestOrder.2.1 44 = .ok (.iconst 1, 1) := by decide +kernel
theorem dX4_bestOrder_45 : decode mX4_bestOrder.2.1 45 = .ok (.istore 9, 2) := by decide +kernel
theorem dX4_bestOrder_47 : decode mX4_bestOrder.2.1 47 = .ok (.iconst 0, 1) := by decide +kernel
theorem dX4_bestOrder_48 : decode mX4_bestOrder.2.1 48 = .ok (.istore 10, 2) := by decide +kernel
theorem dX4_bestOrder_50 : decode mX4_bestOrder.2.1 50 = .ok (.iload 9, 2) := by decide +kernel
theorem dX4_bestOrder_52 : decode mX4_bestOrder.2.1 52 = .ok (.ifCond .eq 79, 3) := by decide +kernel
theorem dX4_bestOrder_55 : decode mX4_bestOrder.2.1 55 = .ok (.iload 10, 2) := by decide +kernel
theorem dX4_bestOrder_57 : decode mX4_bestOrder.2.1 57 = .ok (.sipush 720, 3) := by decide +kernel
theorem dX4_bestOrder_60 : decode mX4_bestOrder.2.1 60 = .ok (.if_icmp .ge 71, 3) := by decide +kernel
theorem dX4_bestOrder_63 : decode mX4_bestOrder.2.1 63 = .ok (.aload_n 0, 1) := by decide +kernel
theorem dX4_bestOrder_64 : decode mX4_bestOrder.2.1 64 = .ok (.getfield 12, 3) := by decide +kernel
theorem dX4_bestOrder_67 : decode mX4_bestOrder.2.1 67 = .ok (.aload_n 2, 1) := by decide +kernel
theorem dX4_bestOrder_68 : decode mX4_bestOrder.2.1 68 = .ok (.invokevirtual 22, 3) := by decide +kernel
theorem dX4_bestOrder_71 : decode mX4_bestOrder.2.1 71 = .ok (.aload_n 0, 1) := by decide +kernel
theorem dX4_bestOrder_72 : decode mX4_bestOrder.2.1 72 = .ok (.aload_n 1, 1) := by decide +kernel
theorem dX4_bestOrder_73 : decode mX4_bestOrder.2.1 73 = .ok (.aload_n 0, 1) := by decide +kernel
theorem dX4_bestOrder_74 : decode mX4_bestOrder.2.1 74 = .ok (.getfield 18, 3) := by decide +kernel
theorem dX4_bestOrder_77 : decode mX4_bestOrder.2.1 77 = .ok (.iload 4, 2) := by decide +kernel
theorem dX4_bestOrder_79 : decode mX4_bestOrder.2.1 79 = .ok (.invokevirtual 38, 3) := by decide +kernel
theorem dX4_bestOrder_82 : decode mX4_bestOrder.2.1 82 = .ok (.istore 11, 2) := by decide +kernel
theorem dX4_bestOrder_84 : decode mX4_bestOrder.2.1 84 = .ok (.iload 11, 2) := by decide +kernel
theorem dX4_bestOrder_86 : decode mX4_bestOrder.2.1 86 = .ok (.iload 8, 2) := by decide +kernel
theorem dX4_bestOrder_88 : decode mX4_bestOrder.2.1 88 = .ok (.if_icmp .ge 27, 3) := by decide +kernel
theorem dX4_bestOrder_91 : decode mX4_bestOrder.2.1 91 = .ok (.iload 11, 2) := by decide +kernel
theorem dX4_bestOrder_93 : decode mX4_bestOrder.2.1 93 = .ok (.istore 8, 2) := by decide +kernel
theorem dX4_bestOrder_95 : decode mX4_bestOrder.2.1 95 = .ok (.aload_n 0, 1) := by decide +kernel
theorem dX4_bestOrder_96 : decode mX4_bestOrder.2.1 96 = .ok (.getfield 18, 3) := by decide +kernel
theorem dX4_bestOrder_99 : decode mX4_bestOrder.2.1 99 = .ok (.iload 6, 2) := by decide +kernel
theorem dX4_bestOrder_101 : decode mX4_bestOrder.2.1 101 = .ok (.aload 5, 2) := by decide +kernel
theorem dX4_bestOrder_103 : decode mX4_bestOrder.2.1 103 = .ok (.iconst 0, 1) := by decide +kernel
theorem dX4_bestOrder_104 : decode mX4_bestOrder.2.1 104 = .ok (.iload 7, 2) := by decide +kernel
theorem dX4_bestOrder_106 : decode mX4_bestOrder.2.1 106 = .ok (.aload 5, 2) := by decide +kernel
theorem dX4_bestOrder_108 : decode mX4_bestOrder.2.1 108 = .ok (.arraylength, 1) := by decide +kernel
theorem dX4_bestOrder_109 : decode mX4_bestOrder.2.1 109 = .ok (.invokestatic 80, 3) := by decide +kernel
theorem dX4_bestOrder_112 : decode mX4_bestOrder.2.1 112 = .ok (.invokestatic 69, 3) := by decide +kernel
theorem dX4_bestOrder_115 : decode mX4_bestOrder.2.1 115 = .ok (.aload_n 0, 1) := by decide +kernel
theorem dX4_bestOrder_116 : decode mX4_bestOrder.2.1 116 = .ok (.iload 6, 2) := by decide +kernel
theorem dX4_bestOrder_118 : decode mX4_bestOrder.2.1 118 = .ok (.iload 7, 2) := by decide +kernel
theorem dX4_bestOrder_120 : decode mX4_bestOrder.2.1 120 = .ok (.invokevirtual 86, 3) := by decide +kernel
theorem dX4_bestOrder_123 : decode mX4_bestOrder.2.1 123 = .ok (.istore 9, 2) := by decide +kernel
theorem dX4_bestOrder_125 : decode mX4_bestOrder.2.1 125 = .ok (.iinc 10 1, 3) := by decide +kernel
theorem dX4_bestOrder_128 : decode mX4_bestOrder.2.1 128 = .ok (.goto (-78), 3) := by decide +kernel
theorem dX4_bestOrder_131 : decode mX4_bestOrder.2.1 131 = .ok (.iload 8, 2) := by decide +kernel
theorem dX4_bestOrder_133 : decode mX4_bestOrder.2.1 133 = .ok (.ireturn, 1) := by decide +kernel
theorem bX4_bestOrder_0 {E : px_E} {d : Nat} {w : pw_W} {Q : Option Value → pw_W → Prop} {t : ct_T} (hw : w.1 = cs t) {x3 x4 : Int32} {r1 : Nat} (hr1 : is_Hamlet r1) {r2 : Nat} {r5 n5 : Nat} (hs5 : (cs t).2.1 r5 = (100, n5)) (hn5 : n5 < 2 ^ 31) (j1 : Nat) (hj1 : x3 = nI j1) (hl1 : j1 < 2)
    (k1 : px_Call E d 0 0 mX4_sortFromLeast [.ref 41, .int (x3 * 6), .int (pw_I w (r1 + 8) j1)] (pw_sA w 45 (va_cpy (pw_I w (r1 + 9)) (pw_I w 45) 0 0 12)) (fun v w' => px_W E mX4_bestOrder (d + 1) 0 0 40 [.ref 41, .ref r1, .ref r2, .null, .int x4, .ref r5, .int (x3 * 6), .int (pw_I w (r1 + 8) j1), .null, .null, .null, .null] (v.toList ++ []) w' Q)) :
    px_W E mX4_bestOrder (d + 1) 0 0 0 [.ref 41, .ref r1, .ref r2, .int x3, .int x4, .ref r5, .null, .null, .null, .null, .null, .null] [] w Q := by
  refine px_iload_n dX4_bestOrder_0 rfl rfl ?_
  refine px_bipush dX4_bestOrder_1 bp_6 ?_
  refine px_imul dX4_bestOrder_3 ?_
  refine px_istore (ls' := [.ref 41, .ref r1, .ref r2, .int x3, .int x4, .ref r5, .int (x3 * 6), .null, .null, .null, .null, .null]) dX4_bestOrder_4 ⟨by decide, rfl⟩ rfl ?_
  refine px_aload_n dX4_bestOrder_6 rfl rfl ?_
  refine px_getR (v := (r1 + 8)) dX4_bestOrder_7 fr_4_66 rfl (px_sh1 hw hr1.sh) (px_rf hw hr1.rf10) (Nat.succ_ne_zero _) ?_
  refine px_iload_n dX4_bestOrder_10 rfl rfl ?_
  refine px_iald dX4_bestOrder_11 (px_sh2 hw hr1.sh8) (by decide) j1 hj1 hl1 ?_
  refine px_istore (ls' := [.ref 41, .ref r1, .ref r2, .int x3, .int x4, .ref r5, .int (x3 * 6), .int (pw_I w (r1 + 8) j1), .null, .null, .null, .null]) dX4_bestOrder_12 ⟨by decide, rfl⟩ rfl ?_
  refine px_aload_n dX4_bestOrder_14 rfl rfl ?_
  refine px_getR (v := (r1 + 9)) dX4_bestOrder_15 fr_4_26 rfl (px_sh1 hw hr1.sh) (px_rf hw hr1.rf11) (Nat.succ_ne_zero _) ?_
  refine px_iconst dX4_bestOrder_18 ic_0 ?_
  refine px_aload_n dX4_bestOrder_19 rfl rfl ?_
  refine px_getR (v := 45) dX4_bestOrder_20 fr_4_18 rfl (px_sh1 hw sh_41) (px_rf hw rf_41_1) (by decide) ?_
  refine px_iconst dX4_bestOrder_23 ic_0 ?_
  refine px_aload_n dX4_bestOrder_24 rfl rfl ?_
  refine px_getR (v := 45) dX4_bestOrder_25 fr_4_18 rfl (px_sh1 hw sh_41) (px_rf hw rf_41_1) (by decide) ?_
  refine px_alen dX4_bestOrder_28 (px_sh2 hw sh_45) (by decide) rfl ?_
  refine px_copy dX4_bestOrder_29 (px_in4 191 rfl rfl) (px_sh2 hw hr1.sh9) (px_sh2 hw sh_45) (by decide) (by decide) 0 0 12 rfl rfl rfl (by decide) (by decide) (Nat.le_of_ble_eq_true rfl) (by omega) ?_
  refine px_aload_n dX4_bestOrder_32 rfl rfl ?_
  refine px_iload dX4_bestOrder_33 rfl ?_
  refine px_iload dX4_bestOrder_35 rfl ?_
  refine px_forget (ls' := [.ref 41, .ref r1, .ref r2, .null, .int x4, .ref r5, .int (x3 * 6), .int (pw_I w (r1 + 8) j1), .null, .null, .null, .null]) ?_ ⟨Or.inr rfl, Or.inr rfl, Or.inr rfl, Or.inl rfl, Or.inr rfl, Or.inr rfl, Or.inr rfl, Or.inr rfl, Or.inl rfl, Or.inl rfl, Or.inl rfl, Or.inl rfl, trivial⟩
  exact px_callV (As := [.int (x3 * 6), .int (pw_I w (r1 + 8) j1)]) (st := []) (rc := 0) (rs := 0) (mc := 0) (ms := 0) dX4_bestOrder_37 lk_4_75 (px_sh1 (hA hw) sh_41) rfl rfl (Nat.le_of_ble_eq_true rfl) k1
theorem eX4_bestOrder {E : px_E} {d : Nat} {w : pw_W} {Q : Option Value → pw_W → Prop} {t : ct_T} (hw : w.1 = cs t) {x3 x4 : Int32} {r1 : Nat} (hr1 : is_Hamlet r1) {r2 : Nat} {r5 n5 : Nat} (hs5 : (cs t).2.1 r5 = (100, n5)) (hn5 : n5 < 2 ^ 31) (j1 : Nat) (hj1 : x3 = nI j1) (hl1 : j1 < 2)
    (k1 : px_Call E d 0 0 mX4_sortFromLeast [.ref 41, .int (x3 * 6), .int (pw_I w (r1 + 8) j1)] (pw_sA w 45 (va_cpy (pw_I w (r1 + 9)) (pw_I w 45) 0 0 12)) (fun v w' => px_W E mX4_bestOrder (d + 1) 0 0 40 [.ref 41, .ref r1, .ref r2, .null, .int x4, .ref r5, .int (x3 * 6), .int (pw_I w (r1 + 8) j1), .null, .null, .null, .null] (v.toList ++ []) w' Q)) :
    px_Call E (d + 1) 0 0 mX4_bestOrder [.ref 41, .ref r1, .ref r2, .int x3, .int x4, .ref r5] w Q :=
  px_enter (k := 6) (by decide) (Nat.le_of_ble_eq_true rfl) rfl (px_forget (bX4_bestOrder_0 hw hr1 hs5 hn5 j1 hj1 hl1 k1) ⟨Or.inr rfl, Or.inr rfl, Or.inr rfl, Or.inr rfl, Or.inr rfl, Or.inr rfl, Or.inl rfl, Or.inl rfl, Or.inl rfl, Or.inl rfl, Or.inl rfl, Or.inl rfl, trivial⟩)
theorem bX4_bestOrder_40 {E : px_E} {d : Nat} {w : pw_W} {Q : Option Value → pw_W → Prop} {t : ct_T} (hw : w.1 = cs t) {x4 x6 x7 : Int32} {r1 : Nat} (hr1 : is_Hamlet r1) {r2 : Nat} {r5 n5 : Nat} (hs5 : (cs t).2.1 r5 = (100, n5)) (hn5 : n5 < 2 ^ 31) 
    (k1 : px_W E mX4_bestOrder (d + 1) 0 0 50 [.ref 41, .ref r1, .ref r2, .null, .int x4, .ref r5, .int x6, .int x7, .int 2147483647, .int 1, .int 0, .null] [] w Q) :
    px_W E mX4_bestOrder (d + 1) 0 0 40 [.ref 41, .ref r1, .ref r2, .null, .int x4, .ref r5, .int x6, .int x7, .null, .null, .null, .null] [] w Q := by
  refine px_ldc dX4_bestOrder_40 (px_in4 200 rfl rfl) ?_
  refine px_istore (ls' := [.ref 41, .ref r1, .ref r2, .null, .int x4, .ref r5, .int x6, .int x7, .int 2147483647, .null, .null, .null]) dX4_bestOrder_42 ⟨by decide, rfl⟩ rfl ?_
  refine px_iconst dX4_bestOrder_44 ic_1 ?_
  refine px_istore (ls' := [.ref 41, .ref r1, .ref r2, .null, .int x4, .ref r5, .int x6, .int x7, .int 2147483647, .int 1, .null, .null]) dX4_bestOrder_45 ⟨by decide, rfl⟩ rfl ?_
  refine px_iconst dX4_bestOrder_47 ic_0 ?_
  refine px_istore (ls' := [.ref 41, .ref r1, .ref r2, .null, .int x4, .ref r5, .int x6, .int x7, .int 2147483647, .int 1, .int 0, .null]) dX4_bestOrder_48 ⟨by decide, rfl⟩ rfl ?_
  exact k1
theorem bX4_bestOrder_50 {E : px_E} {d : Nat} {w : pw_W} {Q : Option Value → pw_W → Prop} {t : ct_T} (hw : w.1 = cs t) {x4 x6 x7 x8 x9 x10 : Int32} {r1 : Nat} (hr1 : is_Hamlet r1) {r2 : Nat} {r5 n5 : Nat} (hs5 : (cs t).2.1 r5 = (100, n5)) (hn5 : n5 < 2 ^ 31) 
    (k1 : x9 = 0 → px_W E mX4_bestOrder (d + 1) 0 0 131 [.null, .null, .null, .null, .null, .null, .null, .null, .int x8, .null, .null, .null] [] w Q)
    (k2 : ¬ x9 = 0 → 720 ≤ x10 → px_W E mX4_bestOrder (d + 1) 0 0 131 [.null, .null, .null, .null, .null, .null, .null, .null, .int x8, .null, .null, .null] [] w Q)
    (k3 : ¬ x9 = 0 → ¬ 720 ≤ x10 → px_Call E d 0 0 mX8_copyFrom [.ref 42, .ref r2] w (fun v w' => px_W E mX4_bestOrder (d + 1) 0 0 71 [.ref 41, .ref r1, .ref r2, .null, .int x4, .ref r5, .int x6, .int x7, .int x8, .null, .int x10, .null] (v.toList ++ []) w' Q)) :
    px_W E mX4_bestOrder (d + 1) 0 0 50 [.ref 41, .ref r1, .ref r2, .null, .int x4, .ref r5, .int x6, .int x7, .int x8, .int x9, .int x10, .null] [] w Q := by
  refine px_iload dX4_bestOrder_50 rfl ?_
  refine px_if_eq (tgt := 131) dX4_bestOrder_52 (by decide) (fun h1 => ?_) (fun h1 => ?_)
  ·
    exact px_forget (k1 h1) ⟨Or.inl rfl, Or.inl rfl, Or.inl rfl, Or.inl rfl, Or.inl rfl, Or.inl rfl, Or.inl rfl, Or.inl rfl, Or.inr rfl, Or.inl rfl, Or.inl rfl, Or.inl rfl, trivial⟩
  ·
    refine px_iload dX4_bestOrder_55 rfl ?_
    refine px_sipush dX4_bestOrder_57 sp_720 ?_
    refine px_icmp_ge (tgt := 131) dX4_bestOrder_60 (by decide) (fun h2 => ?_) (fun h2 => ?_)
    ·
      exact px_forget (k2 h1 h2) ⟨Or.inl rfl, Or.inl rfl, Or.inl rfl, Or.inl rfl, Or.inl rfl, Or.inl rfl, Or.inl rfl, Or.inl rfl, Or.inr rfl, Or.inl rfl, Or.inl rfl, Or.inl rfl, trivial⟩
    ·
      refine px_aload_n dX4_bestOrder_63 rfl rfl ?_
      refine px_getR (v := 42) dX4_bestOrder_64 fr_4_12 rfl (px_sh1 hw sh_41) (px_rf hw rf_41_0) (by decide) ?_
      refine px_aload_n dX4_bestOrder_67 rfl rfl ?_
      refine px_forget (ls' := [.ref 41, .ref r1, .ref r2, .null, .int x4, .ref r5, .int x6, .int x7, .int x8, .null, .int x10, .null]) ?_ ⟨Or.inr rfl, Or.inr rfl, Or.inr rfl, Or.inl rfl, Or.inr rfl, Or.inr rfl, Or.inr rfl, Or.inr rfl, Or.inr rfl, Or.inl rfl, Or.inr rfl, Or.inl rfl, trivial⟩
      exact px_callV (As := [.ref r2]) (st := []) (rc := 0) (rs := 0) (mc := 0) (ms := 0) dX4_bestOrder_68 lk_4_22 (px_sh1 hw sh_42) rfl rfl (Nat.le_of_ble_eq_true rfl) (k3 h1 h2)
theorem bX4_bestOrder_71 {E : px_E} {d : Nat} {w : pw_W} {Q : Option Value → pw_W → Prop} {t : ct_T} (hw : w.1 = cs t) {x4 x6 x7 x8 x10 : Int32} {r1 : Nat} (hr1 : is_Hamlet r1) {r2 : Nat} {r5 n5 : Nat} (hs5 : (cs t).2.1 r5 = (100, n5)) (hn5 : n5 < 2 ^ 31) 
    (k1 : px_Call E d 0 0 mX4_goOn [.ref 41, .ref r1, .ref 45, .int x4] w (fun v w' => px_W E mX4_bestOrder (d + 1) 0 0 82 [.ref 41, .ref r1, .ref r2, .null, .int x4, .ref r5, .int x6, .int x7, .int x8, .null, .int x10, .null] (v.toList ++ []) w' Q)) :
    px_W E mX4_bestOrder (d + 1) 0 0 71 [.ref 41, .ref r1, .ref r2, .null, .int x4, .ref r5, .int x6, .int x7, .int x8, .null, .int x10, .null] [] w Q := by
  refine px_aload_n dX4_bestOrder_71 rfl rfl ?_
  refine px_aload_n dX4_bestOrder_72 rfl rfl ?_
  refine px_aload_n dX4_bestOrder_73 rfl rfl ?_
  refine px_getR (v := 45) dX4_bestOrder_74 fr_4_18 rfl (px_sh1 hw sh_41) (px_rf hw rf_41_1) (by decide) ?_
  refine px_iload dX4_bestOrder_77 rfl ?_
  exact px_callV (As := [.ref r1, .ref 45, .int x4]) (st := []) (rc := 0) (rs := 0) (mc := 0) (ms := 0) dX4_bestOrder_79 lk_4_38 (px_sh1 hw sh_41) rfl rfl (Nat.le_of_ble_eq_true rfl) k1
theorem bX4_bestOrder_82 {E : px_E} {d : Nat} {w : pw_W} {Q : Option Value → pw_W → Prop} {t : ct_T} (hw : w.1 = cs t) {x4 x6 x7 x8 x10 y0 : Int32} {r1 : Nat} (hr1 : is_Hamlet r1) {r2 : Nat} {r5 n5 : Nat} (hs5 : (cs t).2.1 r5 = (100, n5)) (hn5 : n5 < 2 ^ 31) 
    (k1 : x8 ≤ y0 → px_W E mX4_bestOrder (d + 1) 0 0 115 [.ref 41, .ref r1, .ref r2, .null, .int x4, .ref r5, .int x6, .int x7, .int x8, .null, .int x10, .null] [] w Q)
    (k2 : ¬ x8 ≤ y0 → px_W E mX4_bestOrder (d + 1) 0 0 91 [.ref 41, .ref r1, .ref r2, .null, .int x4, .ref r5, .int x6, .int x7, .null, .null, .int x10, .int y0] [] w Q) :
    px_W E mX4_bestOrder (d + 1) 0 0 82 [.ref 41, .ref r1, .ref r2, .null, .int x4, .ref r5, .int x6, .int x7, .int x8, .null, .int x10, .null] [.int y0] w Q := by
  refine px_istore (ls' := [.ref 41, .ref r1, .ref r2, .null, .int x4, .ref r5, .int x6, .int x7, .int x8, .null, .int x10, .int y0]) dX4_bestOrder_82 ⟨by decide, rfl⟩ rfl ?_
  refine px_iload dX4_bestOrder_84 rfl ?_
  refine px_iload dX4_bestOrder_86 rfl ?_
  refine px_icmp_ge (tgt := 115) dX4_bestOrder_88 (by decide) (fun h1 => ?_) (fun h1 => ?_)
  ·
    exact px_forget (k1 h1) ⟨Or.inr rfl, Or.inr rfl, Or.inr rfl, Or.inl rfl, Or.inr rfl, Or.inr rfl, Or.inr rfl, Or.inr rfl, Or.inr rfl, Or.inl rfl, Or.inr rfl, Or.inl rfl, trivial⟩
  ·
    exact px_forget (k2 h1) ⟨Or.inr rfl, Or.inr rfl, Or.inr rfl, Or.inl rfl, Or.inr rfl, Or.inr rfl, Or.inr rfl, Or.inr rfl, Or.inl rfl, Or.inl rfl, Or.inr rfl, Or.inr rfl, trivial⟩
theorem bX4_bestOrder_91 {E : px_E} {d : Nat} {w : pw_W} {Q : Option Value → pw_W → Prop} {t : ct_T} (hw : w.1 = cs t) {x4 x6 x7 x10 x11 : Int32} {r1 : Nat} (hr1 : is_Hamlet r1) {r2 : Nat} {r5 n5 : Nat} (hs5 : (cs t).2.1 r5 = (100, n5)) (hn5 : n5 < 2 ^ 31) (ci1 : Nat) (hci1 : x6 = nI ci1) (ck1 : Nat) (hck1 : (js_min x7 (nI n5)) = nI ck1) (hc3 : ci1 + ck1 ≤ 12) (hc4 : 0 + ck1 ≤ n5)
    (k1 : px_W E mX4_bestOrder (d + 1) 0 0 115 [.ref 41, .ref r1, .ref r2, .null, .int x4, .ref r5, .int x6, .int x7, .int x11, .null, .int x10, .null] [] (pw_sA w r5 (va_cpy (pw_I w 45) (pw_I w r5) ci1 0 ck1)) Q) :
    px_W E mX4_bestOrder (d + 1) 0 0 91 [.ref 41, .ref r1, .ref r2, .null, .int x4, .ref r5, .int x6, .int x7, .null, .null, .int x10, .int x11] [] w Q := by
  refine px_iload dX4_bestOrder_91 rfl ?_
  refine px_istore (ls' := [.ref 41, .ref r1, .ref r2, .null, .int x4, .ref r5, .int x6, .int x7, .int x11, .null, .int x10, .int x11]) dX4_bestOrder_93 ⟨by decide, rfl⟩ rfl ?_
  refine px_aload_n dX4_bestOrder_95 rfl rfl ?_
  refine px_getR (v := 45) dX4_bestOrder_96 fr_4_18 rfl (px_sh1 hw sh_41) (px_rf hw rf_41_1) (by decide) ?_
  refine px_iload dX4_bestOrder_99 rfl ?_
  refine px_aload dX4_bestOrder_101 rfl ?_
  refine px_iconst dX4_bestOrder_103 ic_0 ?_
  refine px_iload dX4_bestOrder_104 rfl ?_
  refine px_aload dX4_bestOrder_106 rfl ?_
  refine px_alen dX4_bestOrder_108 (px_sh2 hw hs5) (by decide) rfl ?_
  refine px_mmin dX4_bestOrder_109 (px_in4 201 rfl rfl) (Nat.le_of_ble_eq_true rfl) (by omega) ?_
  refine px_copy dX4_bestOrder_112 (px_in4 191 rfl rfl) (px_sh2 hw sh_45) (px_sh2 hw hs5) (by decide) hn5 ci1 0 ck1 hci1 rfl hck1 hc3 hc4 (Nat.le_of_ble_eq_true rfl) (by omega) ?_
  exact px_forget k1 ⟨Or.inr rfl, Or.inr rfl, Or.inr rfl, Or.inl rfl, Or.inr rfl, Or.inr rfl, Or.inr rfl, Or.inr rfl, Or.inr rfl, Or.inl rfl, Or.inr rfl, Or.inl rfl, trivial⟩
theorem bX4_bestOrder_115 {E : px_E} {d : Nat} {w : pw_W} {Q : Option Value → pw_W → Prop} {t : ct_T} (hw : w.1 = cs t) {x4 x6 x7 x8 x10 : Int32} {r1 : Nat} (hr1 : is_Hamlet r1) {r2 : Nat} {r5 n5 : Nat} (hs5 : (cs t).2.1 r5 = (100, n5)) (hn5 : n5 < 2 ^ 31) 
    (k1 : px_Call E d 0 0 mX4_turnToNextOrder [.ref 41, .int x6, .int x7] w (fun v w' => px_W E mX4_bestOrder (d + 1) 0 0 123 [.ref 41, .ref r1, .ref r2, .null, .int x4, .ref r5, .int x6, .int x7, .int x8, .null, .int x10, .null] (v.toList ++ []) w' Q)) :
    px_W E mX4_bestOrder (d + 1) 0 0 115 [.ref 41, .ref r1, .ref r2, .null, .int x4, .ref r5, .int x6, .int x7, .int x8, .null, .int x10, .null] [] w Q := by
  refine px_aload_n dX4_bestOrder_115 rfl rfl ?_
  refine px_iload dX4_bestOrder_116 rfl ?_
  refine px_iload dX4_bestOrder_118 rfl ?_
  exact px_callV (As := [.int x6, .int x7]) (st := []) (rc := 0) (rs := 0) (mc := 0) (ms := 0) dX4_bestOrder_120 lk_4_86 (px_sh1 hw sh_41) rfl rfl (Nat.le_of_ble_eq_true rfl) k1
theorem bX4_bestOrder_123 {E : px_E} {d : Nat} {w : pw_W} {Q : Option Value → pw_W → Prop} {t : ct_T} (hw : w.1 = cs t) {x4 x6 x7 x8 x10 y0 : Int32} {r1 : Nat} (hr1 : is_Hamlet r1) {r2 : Nat} {r5 n5 : Nat} (hs5 : (cs t).2.1 r5 = (100, n5)) (hn5 : n5 < 2 ^ 31) 
    (k1 : px_W E mX4_bestOrder (d + 1) 0 0 50 [.ref 41, .ref r1, .ref r2, .null, .int x4, .ref r5, .int x6, .int x7, .int x8, .int y0, .int (x10 + 1), .null] [] w Q) :
    px_W E mX4_bestOrder (d + 1) 0 0 123 [.ref 41, .ref r1, .ref r2, .null, .int x4, .ref r5, .int x6, .int x7, .int x8, .null, .int x10, .null] [.int y0] w Q := by
  refine px_istore (ls' := [.ref 41, .ref r1, .ref r2, .null, .int x4, .ref r5, .int x6, .int x7, .int x8, .int y0, .int x10, .null]) dX4_bestOrder_123 ⟨by decide, rfl⟩ rfl ?_
  refine px_iinc (ls' := [.ref 41, .ref r1, .ref r2, .null, .int x4, .ref r5, .int x6, .int x7, .int x8, .int y0, .int (x10 + 1), .null]) dX4_bestOrder_125 ⟨by decide, rfl⟩ rfl rfl rfl ?_
  refine px_goto (tgt := 50) dX4_bestOrder_128 (by decide) ?_
  exact k1
theorem bX4_bestOrder_131 {E : px_E} {d : Nat} {w : pw_W} {Q : Option Value → pw_W → Prop} {t : ct_T} (hw : w.1 = cs t) {x8 : Int32} {r1 : Nat} (hr1 : is_Hamlet r1) {r2 : Nat} {r5 n5 : Nat} (hs5 : (cs t).2.1 r5 = (100, n5)) (hn5 : n5 < 2 ^ 31) 
    (k1 : Q (some (.int x8)) w) :
    px_W E mX4_bestOrder (d + 1) 0 0 131 [.null, .null, .null, .null, .null, .null, .null, .null, .int x8, .null, .null, .null] [] w Q := by
  refine px_iload dX4_bestOrder_131 rfl ?_
  exact px_ireturn dX4_bestOrder_133 rfl rfl k1
theorem dX4_leastGrip_0 : decode mX4_leastGrip.2.1 0 = .ok (.iconst 0, 1) := by decide +kernel
theorem dX4_leastGrip_1 : decode mX4_leastGrip.2.1 1 = .ok (.istore 5, 2) := by decide +kernel
theorem dX4_leastGrip_3 : decode mX4_leastGrip.2.1 3 = .ok (.iload 5, 2) := by decide +kernel
theorem dX4_leastGrip_5 : decode mX4_leastGrip.2.1 5 = .ok (.bipush 30, 2) := by decide +kernel
theorem dX4_leastGrip_7 : decode mX4_leastGrip.2.1 7 = .ok (.if_icmp .gt 45, 3) := by decide +kernel
theorem dX4_leastGrip_10 : decode mX4_leastGrip.2.1 10 = .ok (.aload_n 0, 1) := by decide +kernel
theorem dX4_leastGrip_11 : decode mX4_leastGrip.2.1 11 = .ok (.getfield 12, 3) := by decide +kernel
theorem dX4_leastGrip_14 : decode mX4_leastGrip.2.1 14 = .ok (.aload_n 2, 1) := by decide +kernel
theorem dX4_leastGrip_15 : decode mX4_leastGrip.2.1 15 = .ok (.invokevirtual 22, 3) := by decide +kernel
theorem dX4_leastGrip_18 : decode mX4_leastGrip.2.1 18 = .ok (.aload_n 0, 1) := by decide +kernel
theorem dX4_leastGrip_19 : decode mX4_leastGrip.2.1 19 = .ok (.getfield 12, 3) := by decide +kernel
theorem dX4_leastGrip_22 : decode mX4_leastGrip.2.1 22 = .ok (.getfield 42, 3) := by decide +kernel
theorem dX4_leastGrip_25 : decode mX4_leastGrip.2.1 25 = .ok (.iload_n 3, 1) := by decide +kernel
theorem dX4_leastGrip_26 : decode mX4_leastGrip.2.1 26 = .ok (.iload 5, 2) := by decide +kernel
theorem dX4_leastGrip_28 : decode mX4_leastGrip.2.1 28 = .ok (.iastore, 1) := by decide +kernel
theorem dX4_leastGrip_29 : decode mX4_leastGrip.2.1 29 = .ok (.aload_n 0, 1) := by decide +kernel
theorem dX4_leastGrip_30 : decode mX4_leastGrip.2.1 30 = .ok (.aload_n 1, 1) := by decide +kernel
theorem dX4_leastGrip_31 : decode mX4_leastGrip.2.1 31 = .ok (.iconst 1, 1) := by decide +kernel
theorem dX4_leastGrip_32 : decode mX4_leastGrip.2.1 32 = .ok (.iload_n 3, 1) := by decide +kernel
theorem dX4_leastGrip_33 : decode mX4_leastGrip.2.1 33 = .ok (.ishl, 1) := by decide +kernel
theorem dX4_leastGrip_34 : decode mX4_leastGrip.2.1 34 = .ok (.iload 4, 2) := by decide +kernel
theorem dX4_leastGrip_36 : decode mX4_leastGrip.2.1 36 = .ok (.invokevirtual 45, 3) := by decide +kernel
theorem dX4_leastGrip_39 : decode mX4_leastGrip.2.1 39 = .ok (.iconst (-1), 1) := by decide +kernel
theorem dX4_leastGrip_40 : decode mX4_leastGrip.2.1 40 = .ok (.if_icmp .ne 6, 3) := by decide +kernel
theorem dX4_leastGrip_43 : decode mX4_leastGrip.2.1 43 = .ok (.iload 5, 2) := by decide +kernel
theorem dX4_leastGrip_45 : decode mX4_leastGrip.2.1 45 = .ok (.ireturn, 1) := by decide +kernel
theorem dX4_leastGrip_46 : decode mX4_leastGrip.2.1 46 = .ok (.iinc 5 1, 3) := by decide +kernel
theorem dX4_leastGrip_49 : decode mX4_leastGrip.2.1 49 = .ok (.goto (-46), 3) := by decide +kernel
theorem dX4_leastGrip_52 : decode mX4_leastGrip.2.1 52 = .ok (.iconst (-1), 1) := by decide +kernel
theorem dX4_leastGrip_53 : decode mX4_leastGrip.2.1 53 = .ok (.ireturn, 1) := by decide +kernel
theorem bX4_leastGrip_0 {E : px_E} {d : Nat} {w : pw_W} {Q : Option Value → pw_W → Prop} {t : ct_T} (hw : w.1 = cs t) {x3 x4 : Int32} {r1 : Nat} {r2 : Nat} 
    (k1 : px_W E mX4_leastGrip (d + 1) 0 0 3 [.ref 41, .ref r1, .ref r2, .int x3, .int x4, .int 0] [] w Q) :
    px_W E mX4_leastGrip (d + 1) 0 0 0 [.ref 41, .ref r1, .ref r2, .int x3, .int x4, .null] [] w Q := by
  refine px_iconst dX4_leastGrip_0 ic_0 ?_
  refine px_istore (ls' := [.ref 41, .ref r1, .ref r2, .int x3, .int x4, .int 0]) dX4_leastGrip_1 ⟨by decide, rfl⟩ rfl ?_
  exact k1
theorem eX4_leastGrip {E : px_E} {d : Nat} {w : pw_W} {Q : Option Value → pw_W → Prop} {t : ct_T} (hw : w.1 = cs t) {x3 x4 : Int32} {r1 : Nat} {r2 : Nat} 
    (k1 : px_W E mX4_leastGrip (d + 1) 0 0 3 [.ref 41, .ref r1, .ref r2, .int x3, .int x4, .int 0] [] w Q) :
    px_Call E (d + 1) 0 0 mX4_leastGrip [.ref 41, .ref r1, .ref r2, .int x3, .int x4] w Q :=
  px_enter (k := 1) (by decide) (Nat.le_of_ble_eq_true rfl) rfl (px_forget (bX4_leastGrip_0 hw k1) ⟨Or.inr rfl, Or.inr rfl, Or.inr rfl, Or.inr rfl, Or.inr rfl, Or.inl rfl, trivial⟩)
theorem bX4_leastGrip_3 {E : px_E} {d : Nat} {w : pw_W} {Q : Option Value → pw_W → Prop} {t : ct_T} (hw : w.1 = cs t) {x3 x4 x5 : Int32} {r1 : Nat} {r2 : Nat} 
    (k1 : 30 < x5 → Q (some (.int (-1))) w)
    (k2 : ¬ 30 < x5 → px_Call E d 0 0 mX8_copyFrom [.ref 42, .ref r2] w (fun v w' => px_W E mX4_leastGrip (d + 1) 0 0 18 [.ref 41, .ref r1, .ref r2, .int x3, .int x4, .int x5] (v.toList ++ []) w' Q)) :
    px_W E mX4_leastGrip (d + 1) 0 0 3 [.ref 41, .ref r1, .ref r2, .int x3, .int x4, .int x5] [] w Q := by
  refine px_iload dX4_leastGrip_3 rfl ?_
  refine px_bipush dX4_leastGrip_5 bp_30 ?_
  refine px_icmp_gt (tgt := 52) dX4_leastGrip_7 (by decide) (fun h1 => ?_) (fun h1 => ?_)
  ·
    refine px_iconst dX4_leastGrip_52 ic_m1 ?_
    exact px_ireturn dX4_leastGrip_53 rfl rfl (k1 h1)
  ·
    refine px_aload_n dX4_leastGrip_10 rfl rfl ?_
    refine px_getR (v := 42) dX4_leastGrip_11 fr_4_12 rfl (px_sh1 hw sh_41) (px_rf hw rf_41_0) (by decide) ?_
    refine px_aload_n dX4_leastGrip_14 rfl rfl ?_
    exact px_callV (As := [.ref r2]) (st := []) (rc := 0) (rs := 0) (mc := 0) (ms := 0) dX4_leastGrip_15 lk_4_22 (px_sh1 hw sh_42) rfl rfl (Nat.le_of_ble_eq_true rfl) (k2 h1)
theorem bX4_leastGrip_18 {E : px_E} {d : Nat} {w : pw_W} {Q : Option Value → pw_W → Prop} {t : ct_T} (hw : w.1 = cs t) {x3 x4 x5 : Int32} {r1 : Nat} {r2 : Nat} (j1 : Nat) (hj1 : x3 = nI j1) (hl1 : j1 < 6)
    (k1 : px_Call E d 0 0 mX4_goOnTillAbed [.ref 41, .ref r1, .int (js_shl 1 x3), .int x4] (pw_sI w 44 j1 x5) (fun v w' => px_W E mX4_leastGrip (d + 1) 0 0 39 [.ref 41, .ref r1, .ref r2, .int x3, .int x4, .int x5] (v.toList ++ []) w' Q)) :
    px_W E mX4_leastGrip (d + 1) 0 0 18 [.ref 41, .ref r1, .ref r2, .int x3, .int x4, .int x5] [] w Q := by
  refine px_aload_n dX4_leastGrip_18 rfl rfl ?_
  refine px_getR (v := 42) dX4_leastGrip_19 fr_4_12 rfl (px_sh1 hw sh_41) (px_rf hw rf_41_0) (by decide) ?_
  refine px_getR (v := 44) dX4_leastGrip_22 fr_4_42 rfl (px_sh1 hw sh_42) (px_rf hw rf_42_1) (by decide) ?_
  refine px_iload_n dX4_leastGrip_25 rfl rfl ?_
  refine px_iload dX4_leastGrip_26 rfl ?_
  refine px_iast dX4_leastGrip_28 (px_sh2 hw sh_44) (by decide) j1 hj1 hl1 (by omega) ?_
  refine px_aload_n dX4_leastGrip_29 rfl rfl ?_
  refine px_aload_n dX4_leastGrip_30 rfl rfl ?_
  refine px_iconst dX4_leastGrip_31 ic_1 ?_
  refine px_iload_n dX4_leastGrip_32 rfl rfl ?_
  refine px_ishl dX4_leastGrip_33 ?_
  refine px_iload dX4_leastGrip_34 rfl ?_
  exact px_callV (As := [.ref r1, .int (js_shl 1 x3), .int x4]) (st := []) (rc := 0) (rs := 0) (mc := 0) (ms := 0) dX4_leastGrip_36 lk_4_45 (px_sh1 (hI hw) sh_41) rfl rfl (Nat.le_of_ble_eq_true rfl) k1
theorem bX4_leastGrip_39 {E : px_E} {d : Nat} {w : pw_W} {Q : Option Value → pw_W → Prop} {t : ct_T} (hw : w.1 = cs t) {x3 x4 x5 y0 : Int32} {r1 : Nat} {r2 : Nat} 
    (k1 : ¬ y0 = (-1) → px_W E mX4_leastGrip (d + 1) 0 0 3 [.ref 41, .ref r1, .ref r2, .int x3, .int x4, .int (x5 + 1)] [] w Q)
    (k2 : y0 = (-1) → Q (some (.int x5)) w) :
    px_W E mX4_leastGrip (d + 1) 0 0 39 [.ref 41, .ref r1, .ref r2, .int x3, .int x4, .int x5] [.int y0] w Q := by
  refine px_iconst dX4_leastGrip_39 ic_m1 ?_
  refine px_icmp_ne (tgt := 46) dX4_leastGrip_40 (by decide) (fun h1 => ?_) (fun h1 => ?_)
  ·
    refine px_iinc (ls' := [.ref 41, .ref r1, .ref r2, .int x3, .int x4, .int (x5 + 1)]) dX4_leastGrip_46 ⟨by decide, rfl⟩ rfl rfl rfl ?_
    refine px_goto (tgt := 3) dX4_leastGrip_49 (by decide) ?_
    exact (k1 h1)
  ·
    refine px_iload dX4_leastGrip_43 rfl ?_
    exact px_ireturn dX4_leastGrip_45 rfl rfl (k2 h1)
theorem dX4_choosePupil_0 : decode mX4_choosePupil.2.1 0 = .ok (.aload_n 0, 1) := by decide +kernel
theorem dX4_choosePupil_1 : decode mX4_choosePupil.2.1 1 = .ok (.iconst (-1), 1) := by decide +kernel
theorem dX4_choosePupil_2 : decode mX4_choosePupil.2.1 2 = .ok (.putfield 90, 3) := by decide +kernel
theorem dX4_choosePupil_5 : decode mX4_choosePupil.2.1 5 = .ok (.iconst 0, 1) := by decide +kernel
theorem dX4_choosePupil_6 : decode mX4_choosePupil.2.1 6 = .ok (.istore 4, 2) := by decide +kernel
theorem dX4_choosePupil_8 : decode mX4_choosePupil.2.1 8 = .ok (.iload 4, 2) := by decide +kernel
theorem dX4_choosePupil_10 : decode mX4_choosePupil.2.1 10 = .ok (.aload_n 1, 1) := by decide +kernel
theorem dX4_choosePupil_11 : decode mX4_choosePupil.2.1 11 = .ok (.getfield 93, 3) := by decide +kernel
theorem dX4_choosePupil_14 : decode mX4_choosePupil.2.1 14 = .ok (.if_icmp .ge 59, 3) := by decide +kernel
theorem dX4_choosePupil_17 : decode mX4_choosePupil.2.1 17 = .ok (.aload_n 2, 1) := by decide +kernel
theorem dX4_choosePupil_18 : decode mX4_choosePupil.2.1 18 = .ok (.getfield 42, 3) := by decide +kernel
theorem dX4_choosePupil_21 : decode mX4_choosePupil.2.1 21 = .ok (.iload 4, 2) := by decide +kernel
theorem dX4_choosePupil_23 : decode mX4_choosePupil.2.1 23 = .ok (.iaload, 1) := by decide +kernel
theorem dX4_choosePupil_24 : decode mX4_choosePupil.2.1 24 = .ok (.bipush 30, 2) := by decide +kernel
theorem dX4_choosePupil_26 : decode mX4_choosePupil.2.1 26 = .ok (.if_icmp .ge 41, 3) := by decide +kernel
theorem dX4_choosePupil_29 : decode mX4_choosePupil.2.1 29 = .ok (.aload_n 0, 1) := by decide +kernel
theorem dX4_choosePupil_30 : decode mX4_choosePupil.2.1 30 = .ok (.getfield 12, 3) := by decide +kernel
theorem dX4_choosePupil_33 : decode mX4_choosePupil.2.1 33 = .ok (.aload_n 2, 1) := by decide +kernel
theorem dX4_choosePupil_34 : decode mX4_choosePupil.2.1 34 = .ok (.invokevirtual 22, 3) := by decide +kernel
theorem dX4_choosePupil_37 : decode mX4_choosePupil.2.1 37 = .ok (.aload_n 0, 1) := by decide +kernel
theorem dX4_choosePupil_38 : decode mX4_choosePupil.2.1 38 = .ok (.getfield 12, 3) := by decide +kernel
theorem dX4_choosePupil_41 : decode mX4_choosePupil.2.1 41 = .ok (.getfield 42, 3) := by decide +kernel
theorem dX4_choosePupil_44 : decode mX4_choosePupil.2.1 44 = .ok (.iload 4, 2) := by decide +kernel
theorem dX4_choosePupil_46 : decode mX4_choosePupil.2.1 46 = .ok (.dup2, 1) := by decide +kernel
theorem dX4_choosePupil_47 : decode mX4_choosePupil.2.1 47 = .ok (.iaload, 1) := by decide +kernel
theorem dX4_choosePupil_48 : decode mX4_choosePupil.2.1 48 = .ok (.iconst 1, 1) := by decide +kernel
theorem dX4_choosePupil_49 : decode mX4_choosePupil.2.1 49 = .ok (.iadd, 1) := by decide +kernel
theorem dX4_choosePupil_50 : decode mX4_choosePupil.2.1 50 = .ok (.iastore, 1) := by decide +kernel
theorem dX4_choosePupil_51 : decode mX4_choosePupil.2.1 51 = .ok (.aload_n 0, 1) := by decide +kernel
theorem dX4_choosePupil_52 : decode mX4_choosePupil.2.1 52 = .ok (.iload 4, 2) := by decide +kernel
theorem dX4_choosePupil_54 : decode mX4_choosePupil.2.1 54 = .ok (.aload_n 0, 1) := by decide +kernel
theorem dX4_choosePupil_55 : decode mX4_choosePupil.2.1 55 = .ok (.aload_n 1, 1) := by decide +kernel
theorem dX4_choosePupil_56 : decode mX4_choosePupil.2.1 56 = .ok (.aload_n 1, 1) := by decide +kernel
theorem dX4_choosePupil_57 : decode mX4_choosePupil.2.1 57 = .ok (.getfield 26, 3) := by decide +kernel
theorem dX4_choosePupil_60 : decode mX4_choosePupil.2.1 60 = .ok (.iload_n 3, 1) := by decide +kernel
theorem dX4_choosePupil_61 : decode mX4_choosePupil.2.1 61 = .ok (.invokevirtual 38, 3) := by decide +kernel
theorem dX4_choosePupil_64 : decode mX4_choosePupil.2.1 64 = .ok (.invokevirtual 96, 3) := by decide +kernel
theorem dX4_choosePupil_67 : decode mX4_choosePupil.2.1 67 = .ok (.iinc 4 1, 3) := by decide +kernel
theorem dX4_choosePupil_70 : decode mX4_choosePupil.2.1 70 = .ok (.goto (-62), 3) := by decide +kernel
theorem dX4_choosePupil_73 : decode mX4_choosePupil.2.1 73 = .ok (.return_, 1) := by decide +kernel
theorem bX4_choosePupil_0 {E : px_E} {d : Nat} {w : pw_W} {Q : Option Value → pw_W → Prop} {t : ct_T} (hw : w.1 = cs t) {x3 : Int32} {r1 : Nat} (hr1 : is_Hamlet r1) {r2 : Nat} (hr2 : is_State r2) 
    (k1 : px_W E mX4_choosePupil (d + 1) 0 0 8 [.ref 41, .ref r1, .ref r2, .int x3, .int 0] [] (pw_sI w 41 2 (-1)) Q) :
    px_W E mX4_choosePupil (d + 1) 0 0 0 [.ref 41, .ref r1, .ref r2, .int x3, .null] [] w Q := by
  refine px_aload_n dX4_choosePupil_0 rfl rfl ?_
  refine px_iconst dX4_choosePupil_1 ic_m1 ?_
  refine px_putI dX4_choosePupil_2 fl_4_90 (Or.inl rfl) rfl (px_sh1 hw sh_41) rfl rfl (by omega) ?_
  refine px_iconst dX4_choosePupil_5 ic_0 ?_
  refine px_istore (ls' := [.ref 41, .ref r1, .ref r2, .int x3, .int 0]) dX4_choosePupil_6 ⟨by decide, rfl⟩ rfl ?_
  exact k1
theorem eX4_choosePupil {E : px_E} {d : Nat} {w : pw_W} {Q : Option Value → pw_W → Prop} {t : ct_T} (hw : w.1 = cs t) {x3 : Int32} {r1 : Nat} (hr1 : is_Hamlet r1) {r2 : Nat} (hr2 : is_State r2) 
    (k1 : px_W E mX4_choosePupil (d + 1) 0 0 8 [.ref 41, .ref r1, .ref r2, .int x3, .int 0] [] (pw_sI w 41 2 (-1)) Q) :
    px_Call E (d + 1) 0 0 mX4_choosePupil [.ref 41, .ref r1, .ref r2, .int x3] w Q :=
  px_enter (k := 1) (by decide) (Nat.le_of_ble_eq_true rfl) rfl (px_forget (bX4_choosePupil_0 hw hr1 hr2 k1) ⟨Or.inr rfl, Or.inr rfl, Or.inr rfl, Or.inr rfl, Or.inl rfl, trivial⟩)
theorem bX4_choosePupil_8 {E : px_E} {d : Nat} {w : pw_W} {Q : Option Value → pw_W → Prop} {t : ct_T} (hw : w.1 = cs t) {x3 x4 : Int32} {r1 : Nat} (hr1 : is_Hamlet r1) {r2 : Nat} (hr2 : is_State r2) 
    (k1 : (pw_I w r1 0) ≤ x4 → Q none w)
    (k2 : ¬ (pw_I w r1 0) ≤ x4 → px_W E mX4_choosePupil (d + 1) 0 0 17 [.ref 41, .ref r1, .ref r2, .int x3, .int x4] [] w Q) :
    px_W E mX4_choosePupil (d + 1) 0 0 8 [.ref 41, .ref r1, .ref r2, .int x3, .int x4] [] w Q := by
  refine px_iload dX4_choosePupil_8 rfl ?_
  refine px_aload_n dX4_choosePupil_10 rfl rfl ?_
  refine px_getI dX4_choosePupil_11 fr_4_93 rfl (px_sh1 hw hr1.sh) ?_
  refine px_icmp_ge (tgt := 73) dX4_choosePupil_14 (by decide) (fun h1 => ?_) (fun h1 => ?_)
  ·
    exact px_return dX4_choosePupil_73 rfl (k1 h1)
  ·
    exact (k2 h1)
theorem bX4_choosePupil_17 {E : px_E} {d : Nat} {w : pw_W} {Q : Option Value → pw_W → Prop} {t : ct_T} (hw : w.1 = cs t) {x3 x4 : Int32} {r1 : Nat} (hr1 : is_Hamlet r1) {r2 : Nat} (hr2 : is_State r2) (j1 : Nat) (hj1 : x4 = nI j1) (hl1 : j1 < 6)
    (k1 : 30 ≤ (pw_I w (r2 + 2) j1) → px_W E mX4_choosePupil (d + 1) 0 0 67 [.ref 41, .ref r1, .ref r2, .int x3, .int x4] [] w Q)
    (k2 : ¬ 30 ≤ (pw_I w (r2 + 2) j1) → px_Call E d 0 0 mX8_copyFrom [.ref 42, .ref r2] w (fun v w' => px_W E mX4_choosePupil (d + 1) 0 0 37 [.ref 41, .ref r1, .ref r2, .int x3, .int x4] (v.toList ++ []) w' Q)) :
    px_W E mX4_choosePupil (d + 1) 0 0 17 [.ref 41, .ref r1, .ref r2, .int x3, .int x4] [] w Q := by
  refine px_aload_n dX4_choosePupil_17 rfl rfl ?_
  refine px_getR (v := (r2 + 2)) dX4_choosePupil_18 fr_4_42 rfl (px_sh1 hw hr2.sh) (px_rf hw hr2.rf1) (Nat.succ_ne_zero _) ?_
  refine px_iload dX4_choosePupil_21 rfl ?_
  refine px_iald dX4_choosePupil_23 (px_sh2 hw hr2.sh2) (by decide) j1 hj1 hl1 ?_
  refine px_bipush dX4_choosePupil_24 bp_30 ?_
  refine px_icmp_ge (tgt := 67) dX4_choosePupil_26 (by decide) (fun h1 => ?_) (fun h1 => ?_)
  ·
    exact (k1 h1)
  ·
    refine px_aload_n dX4_choosePupil_29 rfl rfl ?_
    refine px_getR (v := 42) dX4_choosePupil_30 fr_4_12 rfl (px_sh1 hw sh_41) (px_rf hw rf_41_0) (by decide) ?_
    refine px_aload_n dX4_choosePupil_33 rfl rfl ?_
    exact px_callV (As := [.ref r2]) (st := []) (rc := 0) (rs := 0) (mc := 0) (ms := 0) dX4_choosePupil_34 lk_4_22 (px_sh1 hw sh_42) rfl rfl (Nat.le_of_ble_eq_true rfl) (k2 h1)
theorem bX4_choosePupil_37 {E : px_E} {d : Nat} {w : pw_W} {Q : Option Value → pw_W → Prop} {t : ct_T} (hw : w.1 = cs t) {x3 x4 : Int32} {r1 : Nat} (hr1 : is_Hamlet r1) {r2 : Nat} (hr2 : is_State r2) (j1 : Nat) (hj1 : x4 = nI j1) (hl1 : j1 < 6)
    (k1 : px_Call E d 0 0 mX4_goOn [.ref 41, .ref r1, .ref (r1 + 9), .int x3] (pw_sI w 44 j1 ((pw_I w 44 j1) + 1)) (fun v w' => px_W E mX4_choosePupil (d + 1) 0 0 64 [.ref 41, .ref r1, .ref r2, .int x3, .int x4] (v.toList ++ [.int x4, .ref 41]) w' Q)) :
    px_W E mX4_choosePupil (d + 1) 0 0 37 [.ref 41, .ref r1, .ref r2, .int x3, .int x4] [] w Q := by
  refine px_aload_n dX4_choosePupil_37 rfl rfl ?_
  refine px_getR (v := 42) dX4_choosePupil_38 fr_4_12 rfl (px_sh1 hw sh_41) (px_rf hw rf_41_0) (by decide) ?_
  refine px_getR (v := 44) dX4_choosePupil_41 fr_4_42 rfl (px_sh1 hw sh_42) (px_rf hw rf_42_1) (by decide) ?_
  refine px_iload dX4_choosePupil_44 rfl ?_
  refine px_dup2 dX4_choosePupil_46 rfl rfl ?_
  refine px_iald dX4_choosePupil_47 (px_sh2 hw sh_44) (by decide) j1 hj1 hl1 ?_
  refine px_iconst dX4_choosePupil_48 ic_1 ?_
  refine px_iadd dX4_choosePupil_49 ?_
  refine px_iast dX4_choosePupil_50 (px_sh2 hw sh_44) (by decide) j1 hj1 hl1 (by omega) ?_
  refine px_aload_n dX4_choosePupil_51 rfl rfl ?_
  refine px_iload dX4_choosePupil_52 rfl ?_
  refine px_aload_n dX4_choosePupil_54 rfl rfl ?_
  refine px_aload_n dX4_choosePupil_55 rfl rfl ?_
  refine px_aload_n dX4_choosePupil_56 rfl rfl ?_
  refine px_getR (v := (r1 + 9)) dX4_choosePupil_57 fr_4_26 rfl (px_sh1 (hI hw) hr1.sh) (px_rf (hI hw) hr1.rf11) (Nat.succ_ne_zero _) ?_
  refine px_iload_n dX4_choosePupil_60 rfl rfl ?_
  exact px_callV (As := [.ref r1, .ref (r1 + 9), .int x3]) (st := [.int x4, .ref 41]) (rc := 0) (rs := 0) (mc := 0) (ms := 0) dX4_choosePupil_61 lk_4_38 (px_sh1 (hI hw) sh_41) rfl rfl (Nat.le_of_ble_eq_true rfl) k1
theorem bX4_choosePupil_64 {E : px_E} {d : Nat} {w : pw_W} {Q : Option Value → pw_W → Prop} {t : ct_T} (hw : w.1 = cs t) {x3 x4 y1 y2 : Int32} {r1 : Nat} (hr1 : is_Hamlet r1) {r2 : Nat} (hr2 : is_State r2) 
    (k1 : px_Call E d 0 0 mX4_weigh [.ref 41, .int y1, .int y2] w (fun v w' => px_W E mX4_choosePupil (d + 1) 0 0 67 [.ref 41, .ref r1, .ref r2, .int x3, .int x4] (v.toList ++ []) w' Q)) :
    px_W E mX4_choosePupil (d + 1) 0 0 64 [.ref 41, .ref r1, .ref r2, .int x3, .int x4] [.int y2, .int y1, .ref 41] w Q := by
  exact px_callV (As := [.int y1, .int y2]) (st := []) (rc := 0) (rs := 0) (mc := 0) (ms := 0) dX4_choosePupil_64 lk_4_96 (px_sh1 hw sh_41) rfl rfl (Nat.le_of_ble_eq_true rfl) k1
theorem bX4_choosePupil_67 {E : px_E} {d : Nat} {w : pw_W} {Q : Option Value → pw_W → Prop} {t : ct_T} (hw : w.1 = cs t) {x3 x4 : Int32} {r1 : Nat} (hr1 : is_Hamlet r1) {r2 : Nat} (hr2 : is_State r2) 
    (k1 : px_W E mX4_choosePupil (d + 1) 0 0 8 [.ref 41, .ref r1, .ref r2, .int x3, .int (x4 + 1)] [] w Q) :
    px_W E mX4_choosePupil (d + 1) 0 0 67 [.ref 41, .ref r1, .ref r2, .int x3, .int x4] [] w Q := by
  refine px_iinc (ls' := [.ref 41, .ref r1, .ref r2, .int x3, .int (x4 + 1)]) dX4_choosePupil_67 ⟨by decide, rfl⟩ rfl rfl rfl ?_
  refine px_goto (tgt := 8) dX4_choosePupil_70 (by decide) ?_
  exact k1
theorem dX4_chooseScourge_0 : decode mX4_chooseScourge.2.1 0 = .ok (.aload_n 0, 1) := by decide +kernel
theorem dX4_chooseScourge_1 : decode mX4_chooseScourge.2.1 1 = .ok (.iconst (-1), 1) := by decide +kernel
theorem dX4_chooseScourge_2 : decode mX4_chooseScourge.2.1 2 = .ok (.putfield 90, 3) := by decide +kernel
theorem dX4_chooseScourge_5 : decode mX4_chooseScourge.2.1 5 = .ok (.iconst 0, 1) := by decide +kernel
theorem dX4_chooseScourge_6 : decode mX4_chooseScourge.2.1 6 = .ok (.istore 4, 2) := by decide +kernel
theorem dX4_chooseScourge_8 : decode mX4_chooseScourge.2.1 8 = .ok (.iload 4, 2) := by decide +kernel
theorem dX4_chooseScourge_10 : decode mX4_chooseScourge.2.1 10 = .ok (.aload_n 1, 1) := by decide +kernel
theorem dX4_chooseScourge_11 : decode mX4_chooseScourge.2.1 11 = .ok (.getfield 93, 3) := by decide +kernel
theorem dX4_chooseScourge_14 : decode mX4_chooseScourge.2.1 14 = .ok (.if_icmp .ge 91, 3) := by decide +kernel
theorem dX4_chooseScourge_17 : decode mX4_chooseScourge.2.1 17 = .ok (.aload_n 0, 1) := by decide +kernel
theorem dX4_chooseScourge_18 : decode mX4_chooseScourge.2.1 18 = .ok (.getfield 12, 3) := by decide +kernel
theorem dX4_chooseScourge_21 : decode mX4_chooseScourge.2.1 21 = .ok (.aload_n 2, 1) := by decide +kernel
theorem dX4_chooseScourge_22 : decode mX4_chooseScourge.2.1 22 = .ok (.invokevirtual 22, 3) := by decide +kernel
theorem dX4_chooseScourge_25 : decode mX4_chooseScourge.2.1 25 = .ok (.iconst 0, 1) := by decide +kernel
theorem dX4_chooseScourge_26 : decode mX4_chooseScourge.2.1 26 = .ok (.istore 5, 2) := by decide +kernel
theorem dX4_chooseScourge_28 : decode mX4_chooseScourge.2.1 28 = .ok (.iload 5, 2) := by decide +kernel
theorem dX4_chooseScourge_30 : decode mX4_chooseScourge.2.1 30 = .ok (.aload_n 1, 1) := by decide +kernel
theorem dX4_chooseScourge_31 : decode mX4_chooseScourge.2.1 31 = .ok (.getfield 49, 3) := by decide +kernel
theorem dX4_chooseScourge_34 : decode mX4_chooseScourge.2.1 34 = .ok (.if_icmp .ge 49, 3) := by decide +kernel
theorem dX4_chooseScourge_37 : decode mX4_chooseScourge.2.1 37 = .ok (.aload_n 1, 1) := by decide +kernel
theorem dX4_chooseScourge_38 : decode mX4_chooseScourge.2.1 38 = .ok (.getfield 99, 3) := by decide +kernel
theorem dX4_chooseScourge_41 : decode mX4_chooseScourge.2.1 41 = .ok (.iload 5, 2) := by decide +kernel
theorem dX4_chooseScourge_43 : decode mX4_chooseScourge.2.1 43 = .ok (.iaload, 1) := by decide +kernel
theorem dX4_chooseScourge_44 : decode mX4_chooseScourge.2.1 44 = .ok (.iload 4, 2) := by decide +kernel
theorem dX4_chooseScourge_46 : decode mX4_chooseScourge.2.1 46 = .ok (.if_icmp .eq 15, 3) := by decide +kernel
theorem dX4_chooseScourge_49 : decode mX4_chooseScourge.2.1 49 = .ok (.aload_n 1, 1) := by decide +kernel
theorem dX4_chooseScourge_50 : decode mX4_chooseScourge.2.1 50 = .ok (.getfield 102, 3) := by decide +kernel
theorem dX4_chooseScourge_53 : decode mX4_chooseScourge.2.1 53 = .ok (.iload 5, 2) := by decide +kernel
theorem dX4_chooseScourge_55 : decode mX4_chooseScourge.2.1 55 = .ok (.iaload, 1) := by decide +kernel
theorem dX4_chooseScourge_56 : decode mX4_chooseScourge.2.1 56 = .ok (.iload 4, 2) := by decide +kernel
theorem dX4_chooseScourge_58 : decode mX4_chooseScourge.2.1 58 = .ok (.if_icmp .ne 19, 3) := by decide +kernel
theorem dX4_chooseScourge_61 : decode mX4_chooseScourge.2.1 61 = .ok (.aload_n 0, 1) := by decide +kernel
theorem dX4_chooseScourge_62 : decode mX4_chooseScourge.2.1 62 = .ok (.getfield 12, 3) := by decide +kernel
theorem dX4_chooseScourge_65 : decode mX4_chooseScourge.2.1 65 = .ok (.dup, 1) := by decide +kernel
theorem dX4_chooseScourge_66 : decode mX4_chooseScourge.2.1 66 = .ok (.getfield 59, 3) := by decide +kernel
theorem dX4_chooseScourge_69 : decode mX4_chooseScourge.2.1 69 = .ok (.iconst 1, 1) := by decide +kernel
theorem dX4_chooseScourge_70 : decode mX4_chooseScourge.2.1 70 = .ok (.iload 5, 2) := by decide +kernel
theorem dX4_chooseScourge_72 : decode mX4_chooseScourge.2.1 72 = .ok (.ishl, 1) := by decide +kernel
theorem dX4_chooseScourge_73 : decode mX4_chooseScourge.2.1 73 = .ok (.ior, 1) := by decide +kernel
theorem dX4_chooseScourge_74 : decode mX4_chooseScourge.2.1 74 = .ok (.putfield 59, 3) := by decide +kernel
theorem dX4_chooseScourge_77 : decode mX4_chooseScourge.2.1 77 = .ok (.iinc 5 1, 3) := by decide +kernel
theorem dX4_chooseScourge_80 : decode mX4_chooseScourge.2.1 80 = .ok (.goto (-52), 3) := by decide +kernel
theorem dX4_chooseScourge_83 : decode mX4_chooseScourge.2.1 83 = .ok (.aload_n 0, 1) := by decide +kernel
theorem dX4_chooseScourge_84 : decode mX4_chooseScourge.2.1 84 = .ok (.iload 4, 2) := by decide +kernel
theorem dX4_chooseScourge_86 : decode mX4_chooseScourge.2.1 86 = .ok (.aload_n 0, 1) := by decide +kernel
theorem dX4_chooseScourge_87 : decode mX4_chooseScourge.2.1 87 = .ok (.aload_n 1, 1) := by decide +kernel
theorem dX4_chooseScourge_88 : decode mX4_chooseScourge.2.1 88 = .ok (.aload_n 1, 1) := by decide +kernel
theorem dX4_chooseScourge_89 : decode mX4_chooseScourge.2.1 89 = .ok (.getfield 26, 3) := by decide +kernel
theorem dX4_chooseScourge_92 : decode mX4_chooseScourge.2.1 92 = .ok (.iload_n 3, 1) := by decide +kernel
theorem dX4_chooseScourge_93 : decode mX4_chooseScourge.2.1 93 = .ok (.invokevirtual 38, 3) := by decide +kernel
theorem dX4_chooseScourge_96 : decode mX4_chooseScourge.2.1 96 = .ok (.invokevirtual 96, 3) := by decide +kernel
theorem dX4_chooseScourge_99 : decode mX4_chooseScourge.2.1 99 = .ok (.iinc 4 1, 3) := by decide +kernel
theorem dX4_chooseScourge_102 : decode mX4_chooseScourge.2.1 102 = .ok (.goto (-94), 3) := by decide +kernel
theorem dX4_chooseScourge_105 : decode mX4_chooseScourge.2.1 105 = .ok (.return_, 1) := by decide +kernel
theorem bX4_chooseScourge_0 {E : px_E} {d : Nat} {w : pw_W} {Q : Option Value → pw_W → Prop} {t : ct_T} (hw : w.1 = cs t) {x3 : Int32} {r1 : Nat} (hr1 : is_Hamlet r1) {r2 : Nat} 
    (k1 : px_W E mX4_chooseScourge (d + 1) 0 0 8 [.ref 41, .ref r1, .ref r2, .int x3, .int 0, .null] [] (pw_sI w 41 2 (-1)) Q) :
    px_W E mX4_chooseScourge (d + 1) 0 0 0 [.ref 41, .ref r1, .ref r2, .int x3, .null, .null] [] w Q := by
  refine px_aload_n dX4_chooseScourge_0 rfl rfl ?_
  refine px_iconst dX4_chooseScourge_1 ic_m1 ?_
  refine px_putI dX4_chooseScourge_2 fl_4_90 (Or.inl rfl) rfl (px_sh1 hw sh_41) rfl rfl (by omega) ?_
  refine px_iconst dX4_chooseScourge_5 ic_0 ?_
  refine px_istore (ls' := [.ref 41, .ref r1, .ref r2, .int x3, .int 0, .null]) dX4_chooseScourge_6 ⟨by decide, rfl⟩ rfl ?_
  exact k1
theorem eX4_chooseScourge {E : px_E} {d : Nat} {w : pw_W} {Q : Option Value → pw_W → Prop} {t : ct_T} (hw : w.1 = cs t) {x3 : Int32} {r1 : Nat} (hr1 : is_Hamlet r1) {r2 : Nat} 
    (k1 : px_W E mX4_chooseScourge (d + 1) 0 0 8 [.ref 41, .ref r1, .ref r2, .int x3, .int 0, .null] [] (pw_sI w 41 2 (-1)) Q) :
    px_Call E (d + 1) 0 0 mX4_chooseScourge [.ref 41, .ref r1, .ref r2, .int x3] w Q :=
  px_enter (k := 2) (by decide) (Nat.le_of_ble_eq_true rfl) rfl (px_forget (bX4_chooseScourge_0 hw hr1 k1) ⟨Or.inr rfl, Or.inr rfl, Or.inr rfl, Or.inr rfl, Or.inl rfl, Or.inl rfl, trivial⟩)
theorem bX4_chooseScourge_8 {E : px_E} {d : Nat} {w : pw_W} {Q : Option Value → pw_W → Prop} {t : ct_T} (hw : w.1 = cs t) {x3 x4 : Int32} {r1 : Nat} (hr1 : is_Hamlet r1) {r2 : Nat} 
    (k1 : (pw_I w r1 0) ≤ x4 → Q none w)
    (k2 : ¬ (pw_I w r1 0) ≤ x4 → px_Call E d 0 0 mX8_copyFrom [.ref 42, .ref r2] w (fun v w' => px_W E mX4_chooseScourge (d + 1) 0 0 25 [.ref 41, .ref r1, .ref r2, .int x3, .int x4, .null] (v.toList ++ []) w' Q)) :
    px_W E mX4_chooseScourge (d + 1) 0 0 8 [.ref 41, .ref r1, .ref r2, .int x3, .int x4, .null] [] w Q := by
  refine px_iload dX4_chooseScourge_8 rfl ?_
  refine px_aload_n dX4_chooseScourge_10 rfl rfl ?_
  refine px_getI dX4_chooseScourge_11 fr_4_93 rfl (px_sh1 hw hr1.sh) ?_
  refine px_icmp_ge (tgt := 105) dX4_chooseScourge_14 (by decide) (fun h1 => ?_) (fun h1 => ?_)
  ·
    exact px_return dX4_chooseScourge_105 rfl (k1 h1)
  ·
    refine px_aload_n dX4_chooseScourge_17 rfl rfl ?_
    refine px_getR (v := 42) dX4_chooseScourge_18 fr_4_12 rfl (px_sh1 hw sh_41) (px_rf hw rf_41_0) (by decide) ?_
    refine px_aload_n dX4_chooseScourge_21 rfl rfl ?_
    exact px_callV (As := [.ref r2]) (st := []) (rc := 0) (rs := 0) (mc := 0) (ms := 0) dX4_chooseScourge_22 lk_4_22 (px_sh1 hw sh_42) rfl rfl (Nat.le_of_ble_eq_true rfl) (k2 h1)
theorem bX4_chooseScourge_25 {E : px_E} {d : Nat} {w : pw_W} {Q : Option Value → pw_W → Prop} {t : ct_T} (hw : w.1 = cs t) {x3 x4 : Int32} {r1 : Nat} (hr1 : is_Hamlet r1) {r2 : Nat} 
    (k1 : px_W E mX4_chooseScourge (d + 1) 0 0 28 [.ref 41, .ref r1, .ref r2, .int x3, .int x4, .int 0] [] w Q) :
    px_W E mX4_chooseScourge (d + 1) 0 0 25 [.ref 41, .ref r1, .ref r2, .int x3, .int x4, .null] [] w Q := by
  refine px_iconst dX4_chooseScourge_25 ic_0 ?_
  refine px_istore (ls' := [.ref 41, .ref r1, .ref r2, .int x3, .int x4, .int 0]) dX4_chooseScourge_26 ⟨by decide, rfl⟩ rfl ?_
  exact k1
theorem bX4_chooseScourge_28 {E : px_E} {d : Nat} {w : pw_W} {Q : Option Value → pw_W → Prop} {t : ct_T} (hw : w.1 = cs t) {x3 x4 x5 : Int32} {r1 : Nat} (hr1 : is_Hamlet r1) {r2 : Nat} 
    (k1 : (pw_I w r1 4) ≤ x5 → px_Call E d 0 0 mX4_goOn [.ref 41, .ref r1, .ref (r1 + 9), .int x3] w (fun v w' => px_W E mX4_chooseScourge (d + 1) 0 0 96 [.ref 41, .ref r1, .ref r2, .int x3, .int x4, .null] (v.toList ++ [.int x4, .ref 41]) w' Q))
    (k2 : ¬ (pw_I w r1 4) ≤ x5 → px_W E mX4_chooseScourge (d + 1) 0 0 37 [.ref 41, .ref r1, .ref r2, .int x3, .int x4, .int x5] [] w Q) :
    px_W E mX4_chooseScourge (d + 1) 0 0 28 [.ref 41, .ref r1, .ref r2, .int x3, .int x4, .int x5] [] w Q := by
  refine px_iload dX4_chooseScourge_28 rfl ?_
  refine px_aload_n dX4_chooseScourge_30 rfl rfl ?_
  refine px_getI dX4_chooseScourge_31 fr_4_49 rfl (px_sh1 hw hr1.sh) ?_
  refine px_icmp_ge (tgt := 83) dX4_chooseScourge_34 (by decide) (fun h1 => ?_) (fun h1 => ?_)
  ·
    refine px_aload_n dX4_chooseScourge_83 rfl rfl ?_
    refine px_iload dX4_chooseScourge_84 rfl ?_
    refine px_aload_n dX4_chooseScourge_86 rfl rfl ?_
    refine px_aload_n dX4_chooseScourge_87 rfl rfl ?_
    refine px_aload_n dX4_chooseScourge_88 rfl rfl ?_
    refine px_getR (v := (r1 + 9)) dX4_chooseScourge_89 fr_4_26 rfl (px_sh1 hw hr1.sh) (px_rf hw hr1.rf11) (Nat.succ_ne_zero _) ?_
    refine px_iload_n dX4_chooseScourge_92 rfl rfl ?_
    refine px_forget (ls' := [.ref 41, .ref r1, .ref r2, .int x3, .int x4, .null]) ?_ ⟨Or.inr rfl, Or.inr rfl, Or.inr rfl, Or.inr rfl, Or.inr rfl, Or.inl rfl, trivial⟩
    exact px_callV (As := [.ref r1, .ref (r1 + 9), .int x3]) (st := [.int x4, .ref 41]) (rc := 0) (rs := 0) (mc := 0) (ms := 0) dX4_chooseScourge_93 lk_4_38 (px_sh1 hw sh_41) rfl rfl (Nat.le_of_ble_eq_true rfl) (k1 h1)
  ·
    exact (k2 h1)
theorem bX4_chooseScourge_37 {E : px_E} {d : Nat} {w : pw_W} {Q : Option Value → pw_W → Prop} {t : ct_T} (hw : w.1 = cs t) {x3 x4 x5 : Int32} {r1 : Nat} (hr1 : is_Hamlet r1) {r2 : Nat} (j1 : Nat) (hj1 : x5 = nI j1) (hl1 : j1 < 9)
    (k1 : (pw_I w (r1 + 4) j1) = x4 → px_W E mX4_chooseScourge (d + 1) 0 0 61 [.ref 41, .ref r1, .ref r2, .int x3, .int x4, .int x5] [] w Q)
    (k2 : ¬ (pw_I w (r1 + 4) j1) = x4 → px_W E mX4_chooseScourge (d + 1) 0 0 49 [.ref 41, .ref r1, .ref r2, .int x3, .int x4, .int x5] [] w Q) :
    px_W E mX4_chooseScourge (d + 1) 0 0 37 [.ref 41, .ref r1, .ref r2, .int x3, .int x4, .int x5] [] w Q := by
  refine px_aload_n dX4_chooseScourge_37 rfl rfl ?_
  refine px_getR (v := (r1 + 4)) dX4_chooseScourge_38 fr_4_99 rfl (px_sh1 hw hr1.sh) (px_rf hw hr1.rf5) (Nat.succ_ne_zero _) ?_
  refine px_iload dX4_chooseScourge_41 rfl ?_
  refine px_iald dX4_chooseScourge_43 (px_sh2 hw hr1.sh4) (by decide) j1 hj1 hl1 ?_
  refine px_iload dX4_chooseScourge_44 rfl ?_
  refine px_icmp_eq (tgt := 61) dX4_chooseScourge_46 (by decide) (fun h1 => ?_) (fun h1 => ?_)
  ·
    exact (k1 h1)
  ·
    exact (k2 h1)
theorem bX4_chooseScourge_49 {E : px_E} {d : Nat} {w : pw_W} {Q : Option Value → pw_W → Prop} {t : ct_T} (hw : w.1 = cs t) {x3 x4 x5 : Int32} {r1 : Nat} (hr1 : is_Hamlet r1) {r2 : Nat} (j1 : Nat) (hj1 : x5 = nI j1) (hl1 : j1 < 9)
    (k1 : ¬ (pw_I w (r1 + 5) j1) = x4 → px_W E mX4_chooseScourge (d + 1) 0 0 77 [.ref 41, .ref r1, .ref r2, .int x3, .int x4, .int x5] [] w Q)
    (k2 : (pw_I w (r1 + 5) j1) = x4 → px_W E mX4_chooseScourge (d + 1) 0 0 61 [.ref 41, .ref r1, .ref r2, .int x3, .int x4, .int x5] [] w Q) :
    px_W E mX4_chooseScourge (d + 1) 0 0 49 [.ref 41, .ref r1, .ref r2, .int x3, .int x4, .int x5] [] w Q := by
  refine px_aload_n dX4_chooseScourge_49 rfl rfl ?_
  refine px_getR (v := (r1 + 5)) dX4_chooseScourge_50 fr_4_102 rfl (px_sh1 hw hr1.sh) (px_rf hw hr1.rf6) (Nat.succ_ne_zero _) ?_
  refine px_iload dX4_chooseScourge_53 rfl ?_
  refine px_iald dX4_chooseScourge_55 (px_sh2 hw hr1.sh5) (by decide) j1 hj1 hl1 ?_
  refine px_iload dX4_chooseScourge_56 rfl ?_
  refine px_icmp_ne (tgt := 77) dX4_chooseScourge_58 (by decide) (fun h1 => ?_) (fun h1 => ?_)
  ·
    exact (k1 h1)
  ·
    exact (k2 h1)
theorem bX4_chooseScourge_61 {E : px_E} {d : Nat} {w : pw_W} {Q : Option Value → pw_W → Prop} {t : ct_T} (hw : w.1 = cs t) {x3 x4 x5 : Int32} {r1 : Nat} (hr1 : is_Hamlet r1) {r2 : Nat} 
    (k1 : px_W E mX4_chooseScourge (d + 1) 0 0 77 [.ref 41, .ref r1, .ref r2, .int x3, .int x4, .int x5] [] (pw_sI w 42 2 ((pw_I w 42 2) ||| (js_shl 1 x5))) Q) :
    px_W E mX4_chooseScourge (d + 1) 0 0 61 [.ref 41, .ref r1, .ref r2, .int x3, .int x4, .int x5] [] w Q := by
  refine px_aload_n dX4_chooseScourge_61 rfl rfl ?_
  refine px_getR (v := 42) dX4_chooseScourge_62 fr_4_12 rfl (px_sh1 hw sh_41) (px_rf hw rf_41_0) (by decide) ?_
  refine px_dup dX4_chooseScourge_65 rfl ?_
  refine px_getI dX4_chooseScourge_66 fr_4_59 rfl (px_sh1 hw sh_42) ?_
  refine px_iconst dX4_chooseScourge_69 ic_1 ?_
  refine px_iload dX4_chooseScourge_70 rfl ?_
  refine px_ishl dX4_chooseScourge_72 ?_
  refine px_ior dX4_chooseScourge_73 ?_
  refine px_putI dX4_chooseScourge_74 fl_4_59 (Or.inl rfl) rfl (px_sh1 hw sh_42) rfl rfl (by omega) ?_
  exact k1
theorem bX4_chooseScourge_77 {E : px_E} {d : Nat} {w : pw_W} {Q : Option Value → pw_W → Prop} {t : ct_T} (hw : w.1 = cs t) {x3 x4 x5 : Int32} {r1 : Nat} (hr1 : is_Hamlet r1) {r2 : Nat} 
    (k1 : px_W E mX4_chooseScourge (d + 1) 0 0 28 [.ref 41, .ref r1, .ref r2, .int x3, .int x4, .int (x5 + 1)] [] w Q) :
    px_W E mX4_chooseScourge (d + 1) 0 0 77 [.ref 41, .ref r1, .ref r2, .int x3, .int x4, .int x5] [] w Q := by
  refine px_iinc (ls' := [.ref 41, .ref r1, .ref r2, .int x3, .int x4, .int (x5 + 1)]) dX4_chooseScourge_77 ⟨by decide, rfl⟩ rfl rfl rfl ?_
  refine px_goto (tgt := 28) dX4_chooseScourge_80 (by decide) ?_
  exact k1
theorem bX4_chooseScourge_96 {E : px_E} {d : Nat} {w : pw_W} {Q : Option Value → pw_W → Prop} {t : ct_T} (hw : w.1 = cs t) {x3 x4 y1 y2 : Int32} {r1 : Nat} (hr1 : is_Hamlet r1) {r2 : Nat} 
    (k1 : px_Call E d 0 0 mX4_weigh [.ref 41, .int y1, .int y2] w (fun v w' => px_W E mX4_chooseScourge (d + 1) 0 0 99 [.ref 41, .ref r1, .ref r2, .int x3, .int x4, .null] (v.toList ++ []) w' Q)) :
    px_W E mX4_chooseScourge (d + 1) 0 0 96 [.ref 41, .ref r1, .ref r2, .int x3, .int x4, .null] [.int y2, .int y1, .ref 41] w Q := by
  exact px_callV (As := [.int y1, .int y2]) (st := []) (rc := 0) (rs := 0) (mc := 0) (ms := 0) dX4_chooseScourge_96 lk_4_96 (px_sh1 hw sh_41) rfl rfl (Nat.le_of_ble_eq_true rfl) k1
theorem bX4_chooseScourge_99 {E : px_E} {d : Nat} {w : pw_W} {Q : Option Value → pw_W → Prop} {t : ct_T} (hw : w.1 = cs t) {x3 x4 : Int32} {r1 : Nat} (hr1 : is_Hamlet r1) {r2 : Nat} 
    (k1 : px_W E mX4_chooseScourge (d + 1) 0 0 8 [.ref 41, .ref r1, .ref r2, .int x3, .int (x4 + 1), .null] [] w Q) :
    px_W E mX4_chooseScourge (d + 1) 0 0 99 [.ref 41, .ref r1, .ref r2, .int x3, .int x4, .null] [] w Q := by
  refine px_iinc (ls' := [.ref 41, .ref r1, .ref r2, .int x3, .int (x4 + 1), .null]) dX4_chooseScourge_99 ⟨by decide, rfl⟩ rfl rfl rfl ?_
  refine px_goto (tgt := 8) dX4_chooseScourge_102 (by decide) ?_
  exact k1
theorem dX4_chooseRelief_0 : decode mX4_chooseRelief.2.1 0 = .ok (.aload_n 0, 1) := by decide +kernel
theorem dX4_chooseRelief_1 : decode mX4_chooseRelief.2.1 1 = .ok (.iconst (-1), 1) := by decide +kernel
theorem dX4_chooseRelief_2 : decode mX4_chooseRelief.2.1 2 = .ok (.putfield 90, 3) := by decide +kernel
theorem dX4_chooseRelief_5 : decode mX4_chooseRelief.2.1 5 = .ok (.iconst 0, 1) := by decide +kernel
theorem dX4_chooseRelief_6 : decode mX4_chooseRelief.2.1 6 = .ok (.istore 5, 2) := by decide +kernel
theorem dX4_chooseRelief_8 : decode mX4_chooseRelief.2.1 8 = .ok (.iload 5, 2) := by decide +kernel
theorem dX4_chooseRelief_10 : decode mX4_chooseRelief.2.1 10 = .ok (.aload_n 1, 1) := by decide +kernel
theorem dX4_chooseRelief_11 : decode mX4_chooseRelief.2.1 11 = .ok (.getfield 93, 3) := by decide +kernel
theorem dX4_chooseRelief_14 : decode mX4_chooseRelief.2.1 14 = .ok (.if_icmp .ge 45, 3) := by decide +kernel
theorem dX4_chooseRelief_17 : decode mX4_chooseRelief.2.1 17 = .ok (.aload_n 0, 1) := by decide +kernel
theorem dX4_chooseRelief_18 : decode mX4_chooseRelief.2.1 18 = .ok (.getfield 12, 3) := by decide +kernel
theorem dX4_chooseRelief_21 : decode mX4_chooseRelief.2.1 21 = .ok (.aload_n 2, 1) := by decide +kernel
theorem dX4_chooseRelief_22 : decode mX4_chooseRelief.2.1 22 = .ok (.invokevirtual 22, 3) := by decide +kernel
theorem dX4_chooseRelief_25 : decode mX4_chooseRelief.2.1 25 = .ok (.aload_n 1, 1) := by decide +kernel
theorem dX4_chooseRelief_26 : decode mX4_chooseRelief.2.1 26 = .ok (.aload_n 0, 1) := by decide +kernel
theorem dX4_chooseRelief_27 : decode mX4_chooseRelief.2.1 27 = .ok (.getfield 12, 3) := by decide +kernel
theorem dX4_chooseRelief_30 : decode mX4_chooseRelief.2.1 30 = .ok (.iload_n 3, 1) := by decide +kernel
theorem dX4_chooseRelief_31 : decode mX4_chooseRelief.2.1 31 = .ok (.iload 5, 2) := by decide +kernel
theorem dX4_chooseRelief_33 : decode mX4_chooseRelief.2.1 33 = .ok (.invokevirtual 105, 3) := by decide +kernel
theorem dX4_chooseRelief_36 : decode mX4_chooseRelief.2.1 36 = .ok (.aload_n 0, 1) := by decide +kernel
theorem dX4_chooseRelief_37 : decode mX4_chooseRelief.2.1 37 = .ok (.iload 5, 2) := by decide +kernel
theorem dX4_chooseRelief_39 : decode mX4_chooseRelief.2.1 39 = .ok (.aload_n 0, 1) := by decide +kernel
theorem dX4_chooseRelief_40 : decode mX4_chooseRelief.2.1 40 = .ok (.aload_n 1, 1) := by decide +kernel
theorem dX4_chooseRelief_41 : decode mX4_chooseRelief.2.1 41 = .ok (.aload_n 1, 1) := by decide +kernel
theorem dX4_chooseRelief_42 : decode mX4_chooseRelief.2.1 42 = .ok (.getfield 26, 3) := by decide +kernel
theorem dX4_chooseRelief_45 : decode mX4_chooseRelief.2.1 45 = .ok (.iload 4, 2) := by decide +kernel
theorem dX4_chooseRelief_47 : decode mX4_chooseRelief.2.1 47 = .ok (.invokevirtual 38, 3) := by decide +kernel
theorem dX4_chooseRelief_50 : decode mX4_chooseRelief.2.1 50 = .ok (.invokevirtual 96, 3) := by decide +kernel
theorem dX4_chooseRelief_53 : decode mX4_chooseRelief.2.1 53 = .ok (.iinc 5 1, 3) := by decide +kernel
theorem dX4_chooseRelief_56 : decode mX4_chooseRelief.2.1 56 = .ok (.goto (-48), 3) := by decide +kernel
theorem dX4_chooseRelief_59 : decode mX4_chooseRelief.2.1 59 = .ok (.return_, 1) := by decide +kernel
theorem bX4_chooseRelief_0 {E : px_E} {d : Nat} {w : pw_W} {Q : Option Value → pw_W → Prop} {t : ct_T} (hw : w.1 = cs t) {x3 x4 : Int32} {r1 : Nat} (hr1 : is_Hamlet r1) {r2 : Nat} 
    (k1 : px_W E mX4_chooseRelief (d + 1) 0 0 8 [.ref 41, .ref r1, .ref r2, .int x3, .int x4, .int 0] [] (pw_sI w 41 2 (-1)) Q) :
    px_W E mX4_chooseRelief (d + 1) 0 0 0 [.ref 41, .ref r1, .ref r2, .int x3, .int x4, .null] [] w Q := by
  refine px_aload_n dX4_chooseRelief_0 rfl rfl ?_
  refine px_iconst dX4_chooseRelief_1 ic_m1 ?_
  refine px_putI dX4_chooseRelief_2 fl_4_90 (Or.inl rfl) rfl (px_sh1 hw sh_41) rfl rfl (by omega) ?_
  refine px_iconst dX4_chooseRelief_5 ic_0 ?_
  refine px_istore (ls' := [.ref 41, .ref r1, .ref r2, .int x3, .int x4, .int 0]) dX4_chooseRelief_6 ⟨by decide, rfl⟩ rfl ?_
  exact k1
theorem eX4_chooseRelief {E : px_E} {d : Nat} {w : pw_W} {Q : Option Value → pw_W → Prop} {t : ct_T} (hw : w.1 = cs t) {x3 x4 : Int32} {r1 : Nat} (hr1 : is_Hamlet r1) {r2 : Nat} 
    (k1 : px_W E mX4_chooseRelief (d + 1) 0 0 8 [.ref 41, .ref r1, .ref r2, .int x3, .int x4, .int 0] [] (pw_sI w 41 2 (-1)) Q) :
    px_Call E (d + 1) 0 0 mX4_chooseRelief [.ref 41, .ref r1, .ref r2, .int x3, .int x4] w Q :=
  px_enter (k := 1) (by decide) (Nat.le_of_ble_eq_true rfl) rfl (px_forget (bX4_chooseRelief_0 hw hr1 k1) ⟨Or.inr rfl, Or.inr rfl, Or.inr rfl, Or.inr rfl, Or.inr rfl, Or.inl rfl, trivial⟩)
theorem bX4_chooseRelief_8 {E : px_E} {d : Nat} {w : pw_W} {Q : Option Value → pw_W → Prop} {t : ct_T} (hw : w.1 = cs t) {x3 x4 x5 : Int32} {r1 : Nat} (hr1 : is_Hamlet r1) {r2 : Nat} 
    (k1 : (pw_I w r1 0) ≤ x5 → Q none w)
    (k2 : ¬ (pw_I w r1 0) ≤ x5 → px_Call E d 0 0 mX8_copyFrom [.ref 42, .ref r2] w (fun v w' => px_W E mX4_chooseRelief (d + 1) 0 0 25 [.ref 41, .ref r1, .ref r2, .int x3, .int x4, .int x5] (v.toList ++ []) w' Q)) :
    px_W E mX4_chooseRelief (d + 1) 0 0 8 [.ref 41, .ref r1, .ref r2, .int x3, .int x4, .int x5] [] w Q := by
  refine px_iload dX4_chooseRelief_8 rfl ?_
  refine px_aload_n dX4_chooseRelief_10 rfl rfl ?_
  refine px_getI dX4_chooseRelief_11 fr_4_93 rfl (px_sh1 hw hr1.sh) ?_
  refine px_icmp_ge (tgt := 59) dX4_chooseRelief_14 (by decide) (fun h1 => ?_) (fun h1 => ?_)
  ·
    exact px_return dX4_chooseRelief_59 rfl (k1 h1)
  ·
    refine px_aload_n dX4_chooseRelief_17 rfl rfl ?_
    refine px_getR (v := 42) dX4_chooseRelief_18 fr_4_12 rfl (px_sh1 hw sh_41) (px_rf hw rf_41_0) (by decide) ?_
    refine px_aload_n dX4_chooseRelief_21 rfl rfl ?_
    exact px_callV (As := [.ref r2]) (st := []) (rc := 0) (rs := 0) (mc := 0) (ms := 0) dX4_chooseRelief_22 lk_4_22 (px_sh1 hw sh_42) rfl rfl (Nat.le_of_ble_eq_true rfl) (k2 h1)
theorem bX4_chooseRelief_25 {E : px_E} {d : Nat} {w : pw_W} {Q : Option Value → pw_W → Prop} {t : ct_T} (hw : w.1 = cs t) {x3 x4 x5 : Int32} {r1 : Nat} (hr1 : is_Hamlet r1) {r2 : Nat} 
    (k1 : px_Call E d 0 0 mX2_coolOne [.ref r1, .ref 42, .int x3, .int x5] w (fun v w' => px_W E mX4_chooseRelief (d + 1) 0 0 36 [.ref 41, .ref r1, .ref r2, .int x3, .int x4, .int x5] (v.toList ++ []) w' Q)) :
    px_W E mX4_chooseRelief (d + 1) 0 0 25 [.ref 41, .ref r1, .ref r2, .int x3, .int x4, .int x5] [] w Q := by
  refine px_aload_n dX4_chooseRelief_25 rfl rfl ?_
  refine px_aload_n dX4_chooseRelief_26 rfl rfl ?_
  refine px_getR (v := 42) dX4_chooseRelief_27 fr_4_12 rfl (px_sh1 hw sh_41) (px_rf hw rf_41_0) (by decide) ?_
  refine px_iload_n dX4_chooseRelief_30 rfl rfl ?_
  refine px_iload dX4_chooseRelief_31 rfl ?_
  exact px_callV (As := [.ref 42, .int x3, .int x5]) (st := []) (rc := 0) (rs := 0) (mc := 0) (ms := 0) dX4_chooseRelief_33 lk_4_105 (px_sh1 hw hr1.sh) rfl rfl (Nat.le_of_ble_eq_true rfl) k1
theorem bX4_chooseRelief_36 {E : px_E} {d : Nat} {w : pw_W} {Q : Option Value → pw_W → Prop} {t : ct_T} (hw : w.1 = cs t) {x3 x4 x5 : Int32} {r1 : Nat} (hr1 : is_Hamlet r1) {r2 : Nat} 
    (k1 : px_Call E d 0 0 mX4_goOn [.ref 41, .ref r1, .ref (r1 + 9), .int x4] w (fun v w' => px_W E mX4_chooseRelief (d + 1) 0 0 50 [.ref 41, .ref r1, .ref r2, .int x3, .int x4, .int x5] (v.toList ++ [.int x5, .ref 41]) w' Q)) :
    px_W E mX4_chooseRelief (d + 1) 0 0 36 [.ref 41, .ref r1, .ref r2, .int x3, .int x4, .int x5] [] w Q := by
  refine px_aload_n dX4_chooseRelief_36 rfl rfl ?_
  refine px_iload dX4_chooseRelief_37 rfl ?_
  refine px_aload_n dX4_chooseRelief_39 rfl rfl ?_
  refine px_aload_n dX4_chooseRelief_40 rfl rfl ?_
  refine px_aload_n dX4_chooseRelief_41 rfl rfl ?_
  refine px_getR (v := (r1 + 9)) dX4_chooseRelief_42 fr_4_26 rfl (px_sh1 hw hr1.sh) (px_rf hw hr1.rf11) (Nat.succ_ne_zero _) ?_
  refine px_iload dX4_chooseRelief_45 rfl ?_
  exact px_callV (As := [.ref r1, .ref (r1 + 9), .int x4]) (st := [.int x5, .ref 41]) (rc := 0) (rs := 0) (mc := 0) (ms := 0) dX4_chooseRelief_47 lk_4_38 (px_sh1 hw sh_41) rfl rfl (Nat.le_of_ble_eq_true rfl) k1
theorem bX4_chooseRelief_50 {E : px_E} {d : Nat} {w : pw_W} {Q : Option Value → pw_W → Prop} {t : ct_T} (hw : w.1 = cs t) {x3 x4 x5 y1 y2 : Int32} {r1 : Nat} (hr1 : is_Hamlet r1) {r2 : Nat} 
    (k1 : px_Call E d 0 0 mX4_weigh [.ref 41, .int y1, .int y2] w (fun v w' => px_W E mX4_chooseRelief (d + 1) 0 0 53 [.ref 41, .ref r1, .ref r2, .int x3, .int x4, .int x5] (v.toList ++ []) w' Q)) :
    px_W E mX4_chooseRelief (d + 1) 0 0 50 [.ref 41, .ref r1, .ref r2, .int x3, .int x4, .int x5] [.int y2, .int y1, .ref 41] w Q := by
  exact px_callV (As := [.int y1, .int y2]) (st := []) (rc := 0) (rs := 0) (mc := 0) (ms := 0) dX4_chooseRelief_50 lk_4_96 (px_sh1 hw sh_41) rfl rfl (Nat.le_of_ble_eq_true rfl) k1
theorem bX4_chooseRelief_53 {E : px_E} {d : Nat} {w : pw_W} {Q : Option Value → pw_W → Prop} {t : ct_T} (hw : w.1 = cs t) {x3 x4 x5 : Int32} {r1 : Nat} (hr1 : is_Hamlet r1) {r2 : Nat} 
    (k1 : px_W E mX4_chooseRelief (d + 1) 0 0 8 [.ref 41, .ref r1, .ref r2, .int x3, .int x4, .int (x5 + 1)] [] w Q) :
    px_W E mX4_chooseRelief (d + 1) 0 0 53 [.ref 41, .ref r1, .ref r2, .int x3, .int x4, .int x5] [] w Q := by
  refine px_iinc (ls' := [.ref 41, .ref r1, .ref r2, .int x3, .int x4, .int (x5 + 1)]) dX4_chooseRelief_53 ⟨by decide, rfl⟩ rfl rfl rfl ?_
  refine px_goto (tgt := 8) dX4_chooseRelief_56 (by decide) ?_
  exact k1
theorem dX4_hurtIfAllAre_0 : decode mX4_hurtIfAllAre.2.1 0 = .ok (.aload_n 0, 1) := by decide +kernel
theorem dX4_hurtIfAllAre_1 : decode mX4_hurtIfAllAre.2.1 1 = .ok (.getfield 12, 3) := by decide +kernel
theorem dX4_hurtIfAllAre_4 : decode mX4_hurtIfAllAre.2.1 4 = .ok (.aload_n 2, 1) := by decide +kernel
theorem dX4_hurtIfAllAre_5 : decode mX4_hurtIfAllAre.2.1 5 = .ok (.invokevirtual 22, 3) := by decide +kernel
theorem dX4_hurtIfAllAre_8 : decode mX4_hurtIfAllAre.2.1 8 = .ok (.aload_n 0, 1) := by decide +kernel
theorem dX4_hurtIfAllAre_9 : decode mX4_hurtIfAllAre.2.1 9 = .ok (.getfield 12, 3) := by decide +kernel
theorem dX4_hurtIfAllAre_12 : decode mX4_hurtIfAllAre.2.1 12 = .ok (.getfield 42, 3) := by decide +kernel
theorem dX4_hurtIfAllAre_15 : decode mX4_hurtIfAllAre.2.1 15 = .ok (.iload_n 3, 1) := by decide +kernel
theorem dX4_hurtIfAllAre_16 : decode mX4_hurtIfAllAre.2.1 16 = .ok (.invokestatic 109, 3) := by decide +kernel
theorem dX4_hurtIfAllAre_19 : decode mX4_hurtIfAllAre.2.1 19 = .ok (.aload_n 0, 1) := by decide +kernel
theorem dX4_hurtIfAllAre_20 : decode mX4_hurtIfAllAre.2.1 20 = .ok (.aload_n 1, 1) := by decide +kernel
theorem dX4_hurtIfAllAre_21 : decode mX4_hurtIfAllAre.2.1 21 = .ok (.aload_n 1, 1) := by decide +kernel
theorem dX4_hurtIfAllAre_22 : decode mX4_hurtIfAllAre.2.1 22 = .ok (.getfield 26, 3) := by decide +kernel
theorem dX4_hurtIfAllAre_25 : decode mX4_hurtIfAllAre.2.1 25 = .ok (.iload 4, 2) := by decide +kernel
theorem dX4_hurtIfAllAre_27 : decode mX4_hurtIfAllAre.2.1 27 = .ok (.invokevirtual 38, 3) := by decide +kernel
theorem dX4_hurtIfAllAre_30 : decode mX4_hurtIfAllAre.2.1 30 = .ok (.ireturn, 1) := by decide +kernel
theorem bX4_hurtIfAllAre_0 {E : px_E} {d : Nat} {w : pw_W} {Q : Option Value → pw_W → Prop} {t : ct_T} (hw : w.1 = cs t) {x3 x4 : Int32} {r1 : Nat} (hr1 : is_Hamlet r1) {r2 : Nat} 
    (k1 : px_Call E d 0 0 mX8_copyFrom [.ref 42, .ref r2] w (fun v w' => px_W E mX4_hurtIfAllAre (d + 1) 0 0 8 [.ref 41, .ref r1, .null, .int x3, .int x4] (v.toList ++ []) w' Q)) :
    px_W E mX4_hurtIfAllAre (d + 1) 0 0 0 [.ref 41, .ref r1, .ref r2, .int x3, .int x4] [] w Q := by
  refine px_aload_n dX4_hurtIfAllAre_0 rfl rfl ?_
  refine px_getR (v := 42) dX4_hurtIfAllAre_1 fr_4_12 rfl (px_sh1 hw sh_41) (px_rf hw rf_41_0) (by decide) ?_
  refine px_aload_n dX4_hurtIfAllAre_4 rfl rfl ?_
  refine px_forget (ls' := [.ref 41, .ref r1, .null, .int x3, .int x4]) ?_ ⟨Or.inr rfl, Or.inr rfl, Or.inl rfl, Or.inr rfl, Or.inr rfl, trivial⟩
  exact px_callV (As := [.ref r2]) (st := []) (rc := 0) (rs := 0) (mc := 0) (ms := 0) dX4_hurtIfAllAre_5 lk_4_22 (px_sh1 hw sh_42) rfl rfl (Nat.le_of_ble_eq_true rfl) k1
theorem eX4_hurtIfAllAre {E : px_E} {d : Nat} {w : pw_W} {Q : Option Value → pw_W → Prop} {t : ct_T} (hw : w.1 = cs t) {x3 x4 : Int32} {r1 : Nat} (hr1 : is_Hamlet r1) {r2 : Nat} 
    (k1 : px_Call E d 0 0 mX8_copyFrom [.ref 42, .ref r2] w (fun v w' => px_W E mX4_hurtIfAllAre (d + 1) 0 0 8 [.ref 41, .ref r1, .null, .int x3, .int x4] (v.toList ++ []) w' Q)) :
    px_Call E (d + 1) 0 0 mX4_hurtIfAllAre [.ref 41, .ref r1, .ref r2, .int x3, .int x4] w Q :=
  px_enter (k := 0) (by decide) (Nat.le_of_ble_eq_true rfl) rfl (px_forget (bX4_hurtIfAllAre_0 hw hr1 k1) ⟨Or.inr rfl, Or.inr rfl, Or.inr rfl, Or.inr rfl, Or.inr rfl, trivial⟩)
theorem bX4_hurtIfAllAre_8 {E : px_E} {d : Nat} {w : pw_W} {Q : Option Value → pw_W → Prop} {t : ct_T} (hw : w.1 = cs t) {x3 x4 : Int32} {r1 : Nat} (hr1 : is_Hamlet r1) {r2 : Nat} 
    (k1 : px_Call E d 0 0 mJ7_fill_53178 [.ref 44, .int x3] w (fun v w' => px_W E mX4_hurtIfAllAre (d + 1) 0 0 19 [.ref 41, .ref r1, .null, .null, .int x4] (v.toList ++ []) w' Q)) :
    px_W E mX4_hurtIfAllAre (d + 1) 0 0 8 [.ref 41, .ref r1, .null, .int x3, .int x4] [] w Q := by
  refine px_aload_n dX4_hurtIfAllAre_8 rfl rfl ?_
  refine px_getR (v := 42) dX4_hurtIfAllAre_9 fr_4_12 rfl (px_sh1 hw sh_41) (px_rf hw rf_41_0) (by decide) ?_
  refine px_getR (v := 44) dX4_hurtIfAllAre_12 fr_4_42 rfl (px_sh1 hw sh_42) (px_rf hw rf_42_1) (by decide) ?_
  refine px_iload_n dX4_hurtIfAllAre_15 rfl rfl ?_
  refine px_forget (ls' := [.ref 41, .ref r1, .null, .null, .int x4]) ?_ ⟨Or.inr rfl, Or.inr rfl, Or.inl rfl, Or.inl rfl, Or.inr rfl, trivial⟩
  exact px_callS (As := [.ref 44, .int x3]) (st := []) (rc := 0) (rs := 0) (mc := 0) (ms := 0) dX4_hurtIfAllAre_16 lk_4_109 rfl rfl (Nat.le_of_ble_eq_true rfl) k1
theorem bX4_hurtIfAllAre_19 {E : px_E} {d : Nat} {w : pw_W} {Q : Option Value → pw_W → Prop} {t : ct_T} (hw : w.1 = cs t) {x4 : Int32} {r1 : Nat} (hr1 : is_Hamlet r1) {r2 : Nat} 
    (k1 : px_Call E d 0 0 mX4_goOn [.ref 41, .ref r1, .ref (r1 + 9), .int x4] w (fun v w' => px_W E mX4_hurtIfAllAre (d + 1) 0 0 30 [.null, .null, .null, .null, .null] (v.toList ++ []) w' Q)) :
    px_W E mX4_hurtIfAllAre (d + 1) 0 0 19 [.ref 41, .ref r1, .null, .null, .int x4] [] w Q := by
  refine px_aload_n dX4_hurtIfAllAre_19 rfl rfl ?_
  refine px_aload_n dX4_hurtIfAllAre_20 rfl rfl ?_
  refine px_aload_n dX4_hurtIfAllAre_21 rfl rfl ?_
  refine px_getR (v := (r1 + 9)) dX4_hurtIfAllAre_22 fr_4_26 rfl (px_sh1 hw hr1.sh) (px_rf hw hr1.rf11) (Nat.succ_ne_zero _) ?_
  refine px_iload dX4_hurtIfAllAre_25 rfl ?_
  refine px_forget (ls' := [.null, .null, .null, .null, .null]) ?_ ⟨Or.inl rfl, Or.inl rfl, Or.inl rfl, Or.inl rfl, Or.inl rfl, trivial⟩
  exact px_callV (As := [.ref r1, .ref (r1 + 9), .int x4]) (st := []) (rc := 0) (rs := 0) (mc := 0) (ms := 0) dX4_hurtIfAllAre_27 lk_4_38 (px_sh1 hw sh_41) rfl rfl (Nat.le_of_ble_eq_true rfl) k1
theorem bX4_hurtIfAllAre_30 {E : px_E} {d : Nat} {w : pw_W} {Q : Option Value → pw_W → Prop} {t : ct_T} (hw : w.1 = cs t) {y0 : Int32} {r1 : Nat} (hr1 : is_Hamlet r1) {r2 : Nat} 
    (k1 : Q (some (.int y0)) w) :
    px_W E mX4_hurtIfAllAre (d + 1) 0 0 30 [.null, .null, .null, .null, .null] [.int y0] w Q := by
  exact px_ireturn dX4_hurtIfAllAre_30 rfl rfl k1
theorem dX4_daysTillMeeting_0 : decode mX4_daysTillMeeting.2.1 0 = .ok (.aload_n 0, 1) := by decide +kernel
theorem dX4_daysTillMeeting_1 : decode mX4_daysTillMeeting.2.1 1 = .ok (.getfield 12, 3) := by decide +kernel
theorem dX4_daysTillMeeting_4 : decode mX4_daysTillMeeting.2.1 4 = .ok (.aload_n 2, 1) := by decide +kernel
theorem dX4_daysTillMeeting_5 : decode mX4_daysTillMeeting.2.1 5 = .ok (.invokevirtual 22, 3) := by decide +kernel
theorem dX4_daysTillMeeting_8 : decode mX4_daysTillMeeting.2.1 8 = .ok (.iconst 1, 1) := by decide +kernel
theorem dX4_daysTillMeeting_9 : decode mX4_daysTillMeeting.2.1 9 = .ok (.istore 5, 2) := by decide +kernel
theorem dX4_daysTillMeeting_11 : decode mX4_daysTillMeeting.2.1 11 = .ok (.iload 5, 2) := by decide +kernel
theorem dX4_daysTillMeeting_13 : decode mX4_daysTillMeeting.2.1 13 = .ok (.iload 4, 2) := by decide +kernel
theorem dX4_daysTillMeeting_15 : decode mX4_daysTillMeeting.2.1 15 = .ok (.if_icmp .gt 37, 3) := by decide +kernel
theorem dX4_daysTillMeeting_18 : decode mX4_daysTillMeeting.2.1 18 = .ok (.aload_n 1, 1) := by decide +kernel
theorem dX4_daysTillMeeting_19 : decode mX4_daysTillMeeting.2.1 19 = .ok (.aload_n 0, 1) := by decide +kernel
theorem dX4_daysTillMeeting_20 : decode mX4_daysTillMeeting.2.1 20 = .ok (.getfield 12, 3) := by decide +kernel
theorem dX4_daysTillMeeting_23 : decode mX4_daysTillMeeting.2.1 23 = .ok (.aload_n 1, 1) := by decide +kernel
theorem dX4_daysTillMeeting_24 : decode mX4_daysTillMeeting.2.1 24 = .ok (.getfield 26, 3) := by decide +kernel
theorem dX4_daysTillMeeting_27 : decode mX4_daysTillMeeting.2.1 27 = .ok (.iconst 0, 1) := by decide +kernel
theorem dX4_daysTillMeeting_28 : decode mX4_daysTillMeeting.2.1 28 = .ok (.invokevirtual 31, 3) := by decide +kernel
theorem dX4_daysTillMeeting_31 : decode mX4_daysTillMeeting.2.1 31 = .ok (.istore 6, 2) := by decide +kernel
theorem dX4_daysTillMeeting_33 : decode mX4_daysTillMeeting.2.1 33 = .ok (.iload 6, 2) := by decide +kernel
theorem dX4_daysTillMeeting_35 : decode mX4_daysTillMeeting.2.1 35 = .ok (.iload_n 3, 1) := by decide +kernel
theorem dX4_daysTillMeeting_36 : decode mX4_daysTillMeeting.2.1 36 = .ok (.ishr, 1) := by decide +kernel
theorem dX4_daysTillMeeting_37 : decode mX4_daysTillMeeting.2.1 37 = .ok (.iconst 1, 1) := by decide +kernel
theorem dX4_daysTillMeeting_38 : decode mX4_daysTillMeeting.2.1 38 = .ok (.iand, 1) := by decide +kernel
theorem dX4_daysTillMeeting_39 : decode mX4_daysTillMeeting.2.1 39 = .ok (.iconst 1, 1) := by decide +kernel
theorem dX4_daysTillMeeting_40 : decode mX4_daysTillMeeting.2.1 40 = .ok (.if_icmp .ne 6, 3) := by decide +kernel
theorem dX4_daysTillMeeting_43 : decode mX4_daysTillMeeting.2.1 43 = .ok (.iload 5, 2) := by decide +kernel
theorem dX4_daysTillMeeting_45 : decode mX4_daysTillMeeting.2.1 45 = .ok (.ireturn, 1) := by decide +kernel
theorem dX4_daysTillMeeting_46 : decode mX4_daysTillMeeting.2.1 46 = .ok (.iinc 5 1, 3) := by decide +kernel
theorem dX4_daysTillMeeting_49 : decode mX4_daysTillMeeting.2.1 49 = .ok (.goto (-38), 3) := by decide +kernel
theorem dX4_daysTillMeeting_52 : decode mX4_daysTillMeeting.2.1 52 = .ok (.iconst (-1), 1) := by decide +kernel
theorem dX4_daysTillMeeting_53 : decode mX4_daysTillMeeting.2.1 53 = .ok (.ireturn, 1) := by decide +kernel
theorem bX4_daysTillMeeting_0 {E : px_E} {d : Nat} {w : pw_W} {Q : Option Value → pw_W → Prop} {t : ct_T} (hw : w.1 = cs t) {x3 x4 : Int32} {r1 : Nat} (hr1 : is_Hamlet r1) {r2 : Nat} 
    (k1 : px_Call E d 0 0 mX8_copyFrom [.ref 42, .ref r2] w (fun v w' => px_W E mX4_daysTillMeeting (d + 1) 0 0 8 [.ref 41, .ref r1, .null, .int x3, .int x4, .null, .null] (v.toList ++ []) w' Q)) :
    px_W E mX4_daysTillMeeting (d + 1) 0 0 0 [.ref 41, .ref r1, .ref r2, .int x3, .int x4, .null, .null] [] w Q := by
  refine px_aload_n dX4_daysTillMeeting_0 rfl rfl ?_
  refine px_getR (v := 42) dX4_daysTillMeeting_1 fr_4_12 rfl (px_sh1 hw sh_41) (px_rf hw rf_41_0) (by decide) ?_
  refine px_aload_n dX4_daysTillMeeting_4 rfl rfl ?_
  refine px_forget (ls' := [.ref 41, .ref r1, .null, .int x3, .int x4, .null, .null]) ?_ ⟨Or.inr rfl, Or.inr rfl, Or.inl rfl, Or.inr rfl, Or.inr rfl, Or.inl rfl, Or.inl rfl, trivial⟩
  exact px_callV (As := [.ref r2]) (st := []) (rc := 0) (rs := 0) (mc := 0) (ms := 0) dX4_daysTillMeeting_5 lk_4_22 (px_sh1 hw sh_42) rfl rfl (Nat.le_of_ble_eq_true rfl) k1
theorem eX4_daysTillMeeting {E : px_E} {d : Nat} {w : pw_W} {Q : Option Value → pw_W → Prop} {t : ct_T} (hw : w.1 = cs t) {x3 x4 : Int32} {r1 : Nat} (hr1 : is_Hamlet r1) {r2 : Nat} 
    (k1 : px_Call E d 0 0 mX8_copyFrom [.ref 42, .ref r2] w (fun v w' => px_W E mX4_daysTillMeeting (d + 1) 0 0 8 [.ref 41, .ref r1, .null, .int x3, .int x4, .null, .null] (v.toList ++ []) w' Q)) :
    px_Call E (d + 1) 0 0 mX4_daysTillMeeting [.ref 41, .ref r1, .ref r2, .int x3, .int x4] w Q :=
  px_enter (k := 2) (by decide) (Nat.le_of_ble_eq_true rfl) rfl (px_forget (bX4_daysTillMeeting_0 hw hr1 k1) ⟨Or.inr rfl, Or.inr rfl, Or.inr rfl, Or.inr rfl, Or.inr rfl, Or.inl rfl, Or.inl rfl, trivial⟩)
theorem bX4_daysTillMeeting_8 {E : px_E} {d : Nat} {w : pw_W} {Q : Option Value → pw_W → Prop} {t : ct_T} (hw : w.1 = cs t) {x3 x4 : Int32} {r1 : Nat} (hr1 : is_Hamlet r1) {r2 : Nat} 
    (k1 : px_W E mX4_daysTillMeeting (d + 1) 0 0 11 [.ref 41, .ref r1, .null, .int x3, .int x4, .int 1, .null] [] w Q) :
    px_W E mX4_daysTillMeeting (d + 1) 0 0 8 [.ref 41, .ref r1, .null, .int x3, .int x4, .null, .null] [] w Q := by
  refine px_iconst dX4_daysTillMeeting_8 ic_1 ?_
  refine px_istore (ls' := [.ref 41, .ref r1, .null, .int x3, .int x4, .int 1, .null]) dX4_daysTillMeeting_9 ⟨by decide, rfl⟩ rfl ?_
  exact k1
theorem bX4_daysTillMeeting_11 {E : px_E} {d : Nat} {w : pw_W} {Q : Option Value → pw_W → Prop} {t : ct_T} (hw : w.1 = cs t) {x3 x4 x5 : Int32} {r1 : Nat} (hr1 : is_Hamlet r1) {r2 : Nat} 
    (k1 : x4 < x5 → Q (some (.int (-1))) w)
    (k2 : ¬ x4 < x5 → px_Call E d 0 0 mX2_passDay [.ref r1, .ref 42, .ref (r1 + 9), .int 0] w (fun v w' => px_W E mX4_daysTillMeeting (d + 1) 0 0 31 [.ref 41, .ref r1, .null, .int x3, .int x4, .int x5, .null] (v.toList ++ []) w' Q)) :
    px_W E mX4_daysTillMeeting (d + 1) 0 0 11 [.ref 41, .ref r1, .null, .int x3, .int x4, .int x5, .null] [] w Q := by
  refine px_iload dX4_daysTillMeeting_11 rfl ?_
  refine px_iload dX4_daysTillMeeting_13 rfl ?_
  refine px_icmp_gt (tgt := 52) dX4_daysTillMeeting_15 (by decide) (fun h1 => ?_) (fun h1 => ?_)
  ·
    refine px_iconst dX4_daysTillMeeting_52 ic_m1 ?_
    exact px_ireturn dX4_daysTillMeeting_53 rfl rfl (k1 h1)
  ·
    refine px_aload_n dX4_daysTillMeeting_18 rfl rfl ?_
    refine px_aload_n dX4_daysTillMeeting_19 rfl rfl ?_
    refine px_getR (v := 42) dX4_daysTillMeeting_20 fr_4_12 rfl (px_sh1 hw sh_41) (px_rf hw rf_41_0) (by decide) ?_
    refine px_aload_n dX4_daysTillMeeting_23 rfl rfl ?_
    refine px_getR (v := (r1 + 9)) dX4_daysTillMeeting_24 fr_4_26 rfl (px_sh1 hw hr1.sh) (px_rf hw hr1.rf11) (Nat.succ_ne_zero _) ?_
    refine px_iconst dX4_daysTillMeeting_27 ic_0 ?_
    exact px_callV (As := [.ref 42, .ref (r1 + 9), .int 0]) (st := []) (rc := 0) (rs := 0) (mc := 0) (ms := 0) dX4_daysTillMeeting_28 lk_4_31 (px_sh1 hw hr1.sh) rfl rfl (Nat.le_of_ble_eq_true rfl) (k2 h1)
theorem bX4_daysTillMeeting_31 {E : px_E} {d : Nat} {w : pw_W} {Q : Option Value → pw_W → Prop} {t : ct_T} (hw : w.1 = cs t) {x3 x4 x5 y0 : Int32} {r1 : Nat} (hr1 : is_Hamlet r1) {r2 : Nat} 
    (k1 : ¬ ((js_shr y0 x3) &&& 1) = 1 → px_W E mX4_daysTillMeeting (d + 1) 0 0 11 [.ref 41, .ref r1, .null, .int x3, .int x4, .int (x5 + 1), .null] [] w Q)
    (k2 : ((js_shr y0 x3) &&& 1) = 1 → Q (some (.int x5)) w) :
    px_W E mX4_daysTillMeeting (d + 1) 0 0 31 [.ref 41, .ref r1, .null, .int x3, .int x4, .int x5, .null] [.int y0] w Q := by
  refine px_istore (ls' := [.ref 41, .ref r1, .null, .int x3, .int x4, .int x5, .int y0]) dX4_daysTillMeeting_31 ⟨by decide, rfl⟩ rfl ?_
  refine px_iload dX4_daysTillMeeting_33 rfl ?_
  refine px_iload_n dX4_daysTillMeeting_35 rfl rfl ?_
  refine px_ishr dX4_daysTillMeeting_36 ?_
  refine px_iconst dX4_daysTillMeeting_37 ic_1 ?_
  refine px_iand dX4_daysTillMeeting_38 ?_
  refine px_iconst dX4_daysTillMeeting_39 ic_1 ?_
  refine px_icmp_ne (tgt := 46) dX4_daysTillMeeting_40 (by decide) (fun h1 => ?_) (fun h1 => ?_)
  ·
    refine px_iinc (ls' := [.ref 41, .ref r1, .null, .int x3, .int x4, .int (x5 + 1), .int y0]) dX4_daysTillMeeting_46 ⟨by decide, rfl⟩ rfl rfl rfl ?_
    refine px_goto (tgt := 11) dX4_daysTillMeeting_49 (by decide) ?_
    exact px_forget (k1 h1) ⟨Or.inr rfl, Or.inr rfl, Or.inl rfl, Or.inr rfl, Or.inr rfl, Or.inr rfl, Or.inl rfl, trivial⟩
  ·
    refine px_iload dX4_daysTillMeeting_43 rfl ?_
    exact px_ireturn dX4_daysTillMeeting_45 rfl rfl (k2 h1)
theorem dX4_daysTillSettled_0 : decode mX4_daysTillSettled.2.1 0 = .ok (.aload_n 0, 1) := by decide +kernel
theorem dX4_daysTillSettled_1 : decode mX4_daysTillSettled.2.1 1 = .ok (.getfield 12, 3) := by decide +kernel
theorem dX4_daysTillSettled_4 : decode mX4_daysTillSettled.2.1 4 = .ok (.aload_n 2, 1) := by decide +kernel
theorem dX4_daysTillSettled_5 : decode mX4_daysTillSettled.2.1 5 = .ok (.invokevirtual 22, 3) := by decide +kernel
theorem dX4_daysTillSettled_8 : decode mX4_daysTillSettled.2.1 8 = .ok (.iconst 0, 1) := by decide +kernel
theorem dX4_daysTillSettled_9 : decode mX4_daysTillSettled.2.1 9 = .ok (.istore 4, 2) := by decide +kernel
theorem dX4_daysTillSettled_11 : decode mX4_daysTillSettled.2.1 11 = .ok (.aload_n 1, 1) := by decide +kernel
theorem dX4_daysTillSettled_12 : decode mX4_daysTillSettled.2.1 12 = .ok (.aload_n 0, 1) := by decide +kernel
theorem dX4_daysTillSettled_13 : decode mX4_daysTillSettled.2.1 13 = .ok (.getfield 12, 3) := by decide +kernel
theorem dX4_daysTillSettled_16 : decode mX4_daysTillSettled.2.1 16 = .ok (.invokevirtual 115, 3) := by decide +kernel
theorem dX4_daysTillSettled_19 : decode mX4_daysTillSettled.2.1 19 = .ok (.istore 5, 2) := by decide +kernel
theorem dX4_daysTillSettled_21 : decode mX4_daysTillSettled.2.1 21 = .ok (.iconst 1, 1) := by decide +kernel
theorem dX4_daysTillSettled_22 : decode mX4_daysTillSettled.2.1 22 = .ok (.istore 6, 2) := by decide +kernel
theorem dX4_daysTillSettled_24 : decode mX4_daysTillSettled.2.1 24 = .ok (.iload 6, 2) := by decide +kernel
theorem dX4_daysTillSettled_26 : decode mX4_daysTillSettled.2.1 26 = .ok (.iload_n 3, 1) := by decide +kernel
theorem dX4_daysTillSettled_27 : decode mX4_daysTillSettled.2.1 27 = .ok (.bipush 7, 2) := by decide +kernel
theorem dX4_daysTillSettled_29 : decode mX4_daysTillSettled.2.1 29 = .ok (.iadd, 1) := by decide +kernel
theorem dX4_daysTillSettled_30 : decode mX4_daysTillSettled.2.1 30 = .ok (.if_icmp .gt 61, 3) := by decide +kernel
theorem dX4_daysTillSettled_33 : decode mX4_daysTillSettled.2.1 33 = .ok (.aload_n 1, 1) := by decide +kernel
theorem dX4_daysTillSettled_34 : decode mX4_daysTillSettled.2.1 34 = .ok (.aload_n 0, 1) := by decide +kernel
theorem dX4_daysTillSettled_35 : decode mX4_daysTillSettled.2.1 35 = .ok (.getfield 12, 3) := by decide +kernel
theorem dX4_daysTillSettled_38 : decode mX4_daysTillSettled.2.1 38 = .ok (.aload_n 1, 1) := by decide +kernel
theorem dX4_daysTillSettled_39 : decode mX4_daysTillSettled.2.1 39 = .ok (.getfield 26, 3) := by decide +kernel
theorem dX4_daysTillSettled_42 : decode mX4_daysTillSettled.2.1 42 = .ok (.iconst 0, 1) := by decide +kernel
theorem dX4_daysTillSettled_43 : decode mX4_daysTillSettled.2.1 43 = .ok (.invokevirtual 31, 3) := by decide +kernel
theorem dX4_daysTillSettled_46 : decode mX4_daysTillSettled.2.1 46 = .ok (.pop, 1) := by decide +kernel
theorem dX4_daysTillSettled_47 : decode mX4_daysTillSettled.2.1 47 = .ok (.aload_n 1, 1) := by decide +kernel
theorem dX4_daysTillSettled_48 : decode mX4_daysTillSettled.2.1 48 = .ok (.aload_n 0, 1) := by decide +kernel
theorem dX4_daysTillSettled_49 : decode mX4_daysTillSettled.2.1 49 = .ok (.getfield 12, 3) := by decide +kernel
theorem dX4_daysTillSettled_52 : decode mX4_daysTillSettled.2.1 52 = .ok (.invokevirtual 115, 3) := by decide +kernel
theorem dX4_daysTillSettled_55 : decode mX4_daysTillSettled.2.1 55 = .ok (.istore 7, 2) := by decide +kernel
theorem dX4_daysTillSettled_57 : decode mX4_daysTillSettled.2.1 57 = .ok (.iload 7, 2) := by decide +kernel
theorem dX4_daysTillSettled_59 : decode mX4_daysTillSettled.2.1 59 = .ok (.iload 5, 2) := by decide +kernel
theorem dX4_daysTillSettled_61 : decode mX4_daysTillSettled.2.1 61 = .ok (.if_icmp .eq 11, 3) := by decide +kernel
theorem dX4_daysTillSettled_64 : decode mX4_daysTillSettled.2.1 64 = .ok (.iload 7, 2) := by decide +kernel
theorem dX4_daysTillSettled_66 : decode mX4_daysTillSettled.2.1 66 = .ok (.istore 5, 2) := by decide +kernel
theorem dX4_daysTillSettled_68 : decode mX4_daysTillSettled.2.1 68 = .ok (.iload 6, 2) := by decide +kernel
theorem dX4_daysTillSettled_70 : decode mX4_daysTillSettled.2.1 70 = .ok (.istore 4, 2) := by decide +kernel
theorem dX4_daysTillSettled_72 : decode mX4_daysTillSettled.2.1 72 = .ok (.iload 6, 2) := by decide +kernel
theorem dX4_daysTillSettled_74 : decode mX4_daysTillSettled.2.1 74 = .ok (.iload 4, 2) := by decide +kernel
theorem dX4_daysTillSettled_76 : decode mX4_daysTillSettled.2.1 76 = .ok (.isub, 1) := by decide +kernel
theorem dX4_daysTillSettled_77 : decode mX4_daysTillSettled.2.1 77 = .ok (.bipush 7, 2) := by decide +kernel
theorem dX4_daysTillSettled_79 : decode mX4_daysTillSettled.2.1 79 = .ok (.if_icmp .ne 6, 3) := by decide +kernel
theorem dX4_daysTillSettled_82 : decode mX4_daysTillSettled.2.1 82 = .ok (.iload 4, 2) := by decide +kernel
theorem dX4_daysTillSettled_84 : decode mX4_daysTillSettled.2.1 84 = .ok (.ireturn, 1) := by decide +kernel
theorem dX4_daysTillSettled_85 : decode mX4_daysTillSettled.2.1 85 = .ok (.iinc 6 1, 3) := by decide +kernel
theorem dX4_daysTillSettled_88 : decode mX4_daysTillSettled.2.1 88 = .ok (.goto (-64), 3) := by decide +kernel
theorem dX4_daysTillSettled_91 : decode mX4_daysTillSettled.2.1 91 = .ok (.iconst (-1), 1) := by decide +kernel
theorem dX4_daysTillSettled_92 : decode mX4_daysTillSettled.2.1 92 = .ok (.ireturn, 1) := by decide +kernel
theorem bX4_daysTillSettled_0 {E : px_E} {d : Nat} {w : pw_W} {Q : Option Value → pw_W → Prop} {t : ct_T} (hw : w.1 = cs t) {x3 : Int32} {r1 : Nat} (hr1 : is_Hamlet r1) {r2 : Nat} 
    (k1 : px_Call E d 0 0 mX8_copyFrom [.ref 42, .ref r2] w (fun v w' => px_W E mX4_daysTillSettled (d + 1) 0 0 8 [.ref 41, .ref r1, .null, .int x3, .null, .null, .null, .null] (v.toList ++ []) w' Q)) :
    px_W E mX4_daysTillSettled (d + 1) 0 0 0 [.ref 41, .ref r1, .ref r2, .int x3, .null, .null, .null, .null] [] w Q := by
  refine px_aload_n dX4_daysTillSettled_0 rfl rfl ?_
  refine px_getR (v := 42) dX4_daysTillSettled_1 fr_4_12 rfl (px_sh1 hw sh_41) (px_rf hw rf_41_0) (by decide) ?_
  refine px_aload_n dX4_daysTillSettled_4 rfl rfl ?_
  refine px_forget (ls' := [.ref 41, .ref r1, .null, .int x3, .null, .null, .null, .null]) ?_ ⟨Or.inr rfl, Or.inr rfl, Or.inl rfl, Or.inr rfl, Or.inl rfl, Or.inl rfl, Or.inl rfl, Or.inl rfl, trivial⟩
  exact px_callV (As := [.ref r2]) (st := []) (rc := 0) (rs := 0) (mc := 0) (ms := 0) dX4_daysTillSettled_5 lk_4_22 (px_sh1 hw sh_42) rfl rfl (Nat.le_of_ble_eq_true rfl) k1
theorem eX4_daysTillSettled {E : px_E} {d : Nat} {w : pw_W} {Q : Option Value → pw_W → Prop} {t : ct_T} (hw : w.1 = cs t) {x3 : Int32} {r1 : Nat} (hr1 : is_Hamlet r1) {r2 : Nat} 
    (k1 : px_Call E d 0 0 mX8_copyFrom [.ref 42, .ref r2] w (fun v w' => px_W E mX4_daysTillSettled (d + 1) 0 0 8 [.ref 41, .ref r1, .null, .int x3, .null, .null, .null, .null] (v.toList ++ []) w' Q)) :
    px_Call E (d + 1) 0 0 mX4_daysTillSettled [.ref 41, .ref r1, .ref r2, .int x3] w Q :=
  px_enter (k := 4) (by decide) (Nat.le_of_ble_eq_true rfl) rfl (px_forget (bX4_daysTillSettled_0 hw hr1 k1) ⟨Or.inr rfl, Or.inr rfl, Or.inr rfl, Or.inr rfl, Or.inl rfl, Or.inl rfl, Or.inl rfl, Or.inl rfl, trivial⟩)
theorem bX4_daysTillSettled_8 {E : px_E} {d : Nat} {w : pw_W} {Q : Option Value → pw_W → Prop} {t : ct_T} (hw : w.1 = cs t) {x3 : Int32} {r1 : Nat} (hr1 : is_Hamlet r1) {r2 : Nat} 
    (k1 : px_Call E d 0 0 mX2_allFirm [.ref r1, .ref 42] w (fun v w' => px_W E mX4_daysTillSettled (d + 1) 0 0 19 [.ref 41, .ref r1, .null, .int x3, .int 0, .null, .null, .null] (v.toList ++ []) w' Q)) :
    px_W E mX4_daysTillSettled (d + 1) 0 0 8 [.ref 41, .ref r1, .null, .int x3, .null, .null, .null, .null] [] w Q := by
  refine px_iconst dX4_daysTillSettled_8 ic_0 ?_
  refine px_istore (ls' := [.ref 41, .ref r1, .null, .int x3, .int 0, .null, .null, .null]) dX4_daysTillSettled_9 ⟨by decide, rfl⟩ rfl ?_
  refine px_aload_n dX4_daysTillSettled_11 rfl rfl ?_
  refine px_aload_n dX4_daysTillSettled_12 rfl rfl ?_
  refine px_getR (v := 42) dX4_daysTillSettled_13 fr_4_12 rfl (px_sh1 hw sh_41) (px_rf hw rf_41_0) (by decide) ?_
  exact px_callV (As := [.ref 42]) (st := []) (rc := 0) (rs := 0) (mc := 0) (ms := 0) dX4_daysTillSettled_16 lk_4_115 (px_sh1 hw hr1.sh) rfl rfl (Nat.le_of_ble_eq_true rfl) k1
theorem bX4_daysTillSettled_19 {E : px_E} {d : Nat} {w : pw_W} {Q : Option Value → pw_W → Prop} {t : ct_T} (hw : w.1 = cs t) {x3 x4 y0 : Int32} {r1 : Nat} (hr1 : is_Hamlet r1) {r2 : Nat} 
    (k1 : px_W E mX4_daysTillSettled (d + 1) 0 0 24 [.ref 41, .ref r1, .null, .int x3, .int x4, .int y0, .int 1, .null] [] w Q) :
    px_W E mX4_daysTillSettled (d + 1) 0 0 19 [.ref 41, .ref r1, .null, .int x3, .int x4, .null, .null, .null] [.int y0] w Q := by
  refine px_istore (ls' := [.ref 41, .ref r1, .null, .int x3, .int x4, .int y0, .null, .null]) dX4_daysTillSettled_19 ⟨by decide, rfl⟩ rfl ?_
  refine px_iconst dX4_daysTillSettled_21 ic_1 ?_
  refine px_istore (ls' := [.ref 41, .ref r1, .null, .int x3, .int x4, .int y0, .int 1, .null]) dX4_daysTillSettled_22 ⟨by decide, rfl⟩ rfl ?_
  exact k1
theorem bX4_daysTillSettled_24 {E : px_E} {d : Nat} {w : pw_W} {Q : Option Value → pw_W → Prop} {t : ct_T} (hw : w.1 = cs t) {x3 x4 x5 x6 : Int32} {r1 : Nat} (hr1 : is_Hamlet r1) {r2 : Nat} 
    (k1 : (x3 + 7) < x6 → Q (some (.int (-1))) w)
    (k2 : ¬ (x3 + 7) < x6 → px_Call E d 0 0 mX2_passDay [.ref r1, .ref 42, .ref (r1 + 9), .int 0] w (fun v w' => px_W E mX4_daysTillSettled (d + 1) 0 0 46 [.ref 41, .ref r1, .null, .int x3, .int x4, .int x5, .int x6, .null] (v.toList ++ []) w' Q)) :
    px_W E mX4_daysTillSettled (d + 1) 0 0 24 [.ref 41, .ref r1, .null, .int x3, .int x4, .int x5, .int x6, .null] [] w Q := by
  refine px_iload dX4_daysTillSettled_24 rfl ?_
  refine px_iload_n dX4_daysTillSettled_26 rfl rfl ?_
  refine px_bipush dX4_daysTillSettled_27 bp_7 ?_
  refine px_iadd dX4_daysTillSettled_29 ?_
  refine px_icmp_gt (tgt := 91) dX4_daysTillSettled_30 (by decide) (fun h1 => ?_) (fun h1 => ?_)
  ·
    refine px_iconst dX4_daysTillSettled_91 ic_m1 ?_
    exact px_ireturn dX4_daysTillSettled_92 rfl rfl (k1 h1)
  ·
    refine px_aload_n dX4_daysTillSettled_33 rfl rfl ?_
    refine px_aload_n dX4_daysTillSettled_34 rfl rfl ?_
    refine px_getR (v := 42) dX4_daysTillSettled_35 fr_4_12 rfl (px_sh1 hw sh_41) (px_rf hw rf_41_0) (by decide) ?_
    refine px_aload_n dX4_daysTillSettled_38 rfl rfl ?_
    refine px_getR (v := (r1 + 9)) dX4_daysTillSettled_39 fr_4_26 rfl (px_sh1 hw hr1.sh) (px_rf hw hr1.rf11) (Nat.succ_ne_zero _) ?_
    refine px_iconst dX4_daysTillSettled_42 ic_0 ?_
    exact px_callV (As := [.ref 42, .ref (r1 + 9), .int 0]) (st := []) (rc := 0) (rs := 0) (mc := 0) (ms := 0) dX4_daysTillSettled_43 lk_4_31 (px_sh1 hw hr1.sh) rfl rfl (Nat.le_of_ble_eq_true rfl) (k2 h1)
theorem bX4_daysTillSettled_46 {E : px_E} {d : Nat} {w : pw_W} {Q : Option Value → pw_W → Prop} {t : ct_T} (hw : w.1 = cs t) {x3 x4 x5 x6 y0 : Int32} {r1 : Nat} (hr1 : is_Hamlet r1) {r2 : Nat} 
    (k1 : px_Call E d 0 0 mX2_allFirm [.ref r1, .ref 42] w (fun v w' => px_W E mX4_daysTillSettled (d + 1) 0 0 55 [.ref 41, .ref r1, .null, .int x3, .int x4, .int x5, .int x6, .null] (v.toList ++ []) w' Q)) :
    px_W E mX4_daysTillSettled (d + 1) 0 0 46 [.ref 41, .ref r1, .null, .int x3, .int x4, .int x5, .int x6, .null] [.int y0] w Q := by
  refine px_pop dX4_daysTillSettled_46 rfl ?_
  refine px_aload_n dX4_daysTillSettled_47 rfl rfl ?_
  refine px_aload_n dX4_daysTillSettled_48 rfl rfl ?_
  refine px_getR (v := 42) dX4_daysTillSettled_49 fr_4_12 rfl (px_sh1 hw sh_41) (px_rf hw rf_41_0) (by decide) ?_
  exact px_callV (As := [.ref 42]) (st := []) (rc := 0) (rs := 0) (mc := 0) (ms := 0) dX4_daysTillSettled_52 lk_4_115 (px_sh1 hw hr1.sh) rfl rfl (Nat.le_of_ble_eq_true rfl) k1
theorem bX4_daysTillSettled_55 {E : px_E} {d : Nat} {w : pw_W} {Q : Option Value → pw_W → Prop} {t : ct_T} (hw : w.1 = cs t) {x3 x4 x5 x6 y0 : Int32} {r1 : Nat} (hr1 : is_Hamlet r1) {r2 : Nat} 
    (k1 : y0 = x5 → px_W E mX4_daysTillSettled (d + 1) 0 0 72 [.ref 41, .ref r1, .null, .int x3, .int x4, .int x5, .int x6, .null] [] w Q)
    (k2 : ¬ y0 = x5 → px_W E mX4_daysTillSettled (d + 1) 0 0 72 [.ref 41, .ref r1, .null, .int x3, .int x6, .int y0, .int x6, .null] [] w Q) :
    px_W E mX4_daysTillSettled (d + 1) 0 0 55 [.ref 41, .ref r1, .null, .int x3, .int x4, .int x5, .int x6, .null] [.int y0] w Q := by
  refine px_istore (ls' := [.ref 41, .ref r1, .null, .int x3, .int x4, .int x5, .int x6, .int y0]) dX4_daysTillSettled_55 ⟨by decide, rfl⟩ rfl ?_
  refine px_iload dX4_daysTillSettled_57 rfl ?_
  refine px_iload dX4_daysTillSettled_59 rfl ?_
  refine px_icmp_eq (tgt := 72) dX4_daysTillSettled_61 (by decide) (fun h1 => ?_) (fun h1 => ?_)
  ·
    exact px_forget (k1 h1) ⟨Or.inr rfl, Or.inr rfl, Or.inl rfl, Or.inr rfl, Or.inr rfl, Or.inr rfl, Or.inr rfl, Or.inl rfl, trivial⟩
  ·
    refine px_iload dX4_daysTillSettled_64 rfl ?_
    refine px_istore (ls' := [.ref 41, .ref r1, .null, .int x3, .int x4, .int y0, .int x6, .int y0]) dX4_daysTillSettled_66 ⟨by decide, rfl⟩ rfl ?_
    refine px_iload dX4_daysTillSettled_68 rfl ?_
    refine px_istore (ls' := [.ref 41, .ref r1, .null, .int x3, .int x6, .int y0, .int x6, .int y0]) dX4_daysTillSettled_70 ⟨by decide, rfl⟩ rfl ?_
    exact px_forget (k2 h1) ⟨Or.inr rfl, Or.inr rfl, Or.inl rfl, Or.inr rfl, Or.inr rfl, Or.inr rfl, Or.inr rfl, Or.inl rfl, trivial⟩
theorem bX4_daysTillSettled_72 {E : px_E} {d : Nat} {w : pw_W} {Q : Option Value → pw_W → Prop} {t : ct_T} (hw : w.1 = cs t) {x3 x4 x5 x6 : Int32} {r1 : Nat} (hr1 : is_Hamlet r1) {r2 : Nat} 
    (k1 : ¬ (x6 - x4) = 7 → px_W E mX4_daysTillSettled (d + 1) 0 0 24 [.ref 41, .ref r1, .null, .int x3, .int x4, .int x5, .int (x6 + 1), .null] [] w Q)
    (k2 : (x6 - x4) = 7 → Q (some (.int x4)) w) :
    px_W E mX4_daysTillSettled (d + 1) 0 0 72 [.ref 41, .ref r1, .null, .int x3, .int x4, .int x5, .int x6, .null] [] w Q := by
  refine px_iload dX4_daysTillSettled_72 rfl ?_
  refine px_iload dX4_daysTillSettled_74 rfl ?_
  refine px_isub dX4_daysTillSettled_76 ?_
  refine px_bipush dX4_daysTillSettled_77 bp_7 ?_
  refine px_icmp_ne (tgt := 85) dX4_daysTillSettled_79 (by decide) (fun h1 => ?_) (fun h1 => ?_)
  ·
    refine px_iinc (ls' := [.ref 41, .ref r1, .null, .int x3, .int x4, .int x5, .int (x6 + 1), .null]) dX4_daysTillSettled_85 ⟨by decide, rfl⟩ rfl rfl rfl ?_
    refine px_goto (tgt := 24) dX4_daysTillSettled_88 (by decide) ?_
    exact (k1 h1)
  ·
    refine px_iload dX4_daysTillSettled_82 rfl ?_
    exact px_ireturn dX4_daysTillSettled_84 rfl rfl (k2 h1)
theorem dX4_isRest_0 : decode mX4_isRest.2.1 0 = .ok (.aload_n 1, 1) := by decide +kernel
theorem dX4_isRest_1 : decode mX4_isRest.2.1 1 = .ok (.getfield 99, 3) := by decide +kernel
theorem dX4_isRest_4 : decode mX4_isRest.2.1 4 = .ok (.iload_n 3, 1) := by decide +kernel
theorem dX4_isRest_5 : decode mX4_isRest.2.1 5 = .ok (.iaload, 1) := by decide +kernel
theorem dX4_isRest_6 : decode mX4_isRest.2.1 6 = .ok (.istore 6, 2) := by decide +kernel
theorem dX4_isRest_8 : decode mX4_isRest.2.1 8 = .ok (.aload_n 1, 1) := by decide +kernel
theorem dX4_isRest_9 : decode mX4_isRest.2.1 9 = .ok (.getfield 102, 3) := by decide +kernel
theorem dX4_isRest_12 : decode mX4_isRest.2.1 12 = .ok (.iload_n 3, 1) := by decide +kernel
theorem dX4_isRest_13 : decode mX4_isRest.2.1 13 = .ok (.iaload, 1) := by decide +kernel
theorem dX4_isRest_14 : decode mX4_isRest.2.1 14 = .ok (.istore 7, 2) := by decide +kernel
theorem dX4_isRest_16 : decode mX4_isRest.2.1 16 = .ok (.aload_n 1, 1) := by decide +kernel
theorem dX4_isRest_17 : decode mX4_isRest.2.1 17 = .ok (.aload_n 2, 1) := by decide +kernel
theorem dX4_isRest_18 : decode mX4_isRest.2.1 18 = .ok (.iload 6, 2) := by decide +kernel
theorem dX4_isRest_20 : decode mX4_isRest.2.1 20 = .ok (.iload 7, 2) := by decide +kernel
theorem dX4_isRest_22 : decode mX4_isRest.2.1 22 = .ok (.iload 4, 2) := by decide +kernel
theorem dX4_isRest_24 : decode mX4_isRest.2.1 24 = .ok (.iload 5, 2) := by decide +kernel
theorem dX4_isRest_26 : decode mX4_isRest.2.1 26 = .ok (.invokestatic 119, 3) := by decide +kernel
theorem dX4_isRest_29 : decode mX4_isRest.2.1 29 = .ok (.aload_n 1, 1) := by decide +kernel
theorem dX4_isRest_30 : decode mX4_isRest.2.1 30 = .ok (.aload_n 2, 1) := by decide +kernel
theorem dX4_isRest_31 : decode mX4_isRest.2.1 31 = .ok (.iload 6, 2) := by decide +kernel
theorem dX4_isRest_33 : decode mX4_isRest.2.1 33 = .ok (.iload 7, 2) := by decide +kernel
theorem dX4_isRest_35 : decode mX4_isRest.2.1 35 = .ok (.iconst 1, 1) := by decide +kernel
theorem dX4_isRest_36 : decode mX4_isRest.2.1 36 = .ok (.iload 4, 2) := by decide +kernel
theorem dX4_isRest_38 : decode mX4_isRest.2.1 38 = .ok (.isub, 1) := by decide +kernel
theorem dX4_isRest_39 : decode mX4_isRest.2.1 39 = .ok (.iload 5, 2) := by decide +kernel
theorem dX4_isRest_41 : decode mX4_isRest.2.1 41 = .ok (.invokestatic 119, 3) := by decide +kernel
theorem dX4_isRest_44 : decode mX4_isRest.2.1 44 = .ok (.if_icmp .lt 38, 3) := by decide +kernel
theorem dX4_isRest_47 : decode mX4_isRest.2.1 47 = .ok (.aload_n 1, 1) := by decide +kernel
theorem dX4_isRest_48 : decode mX4_isRest.2.1 48 = .ok (.aload_n 2, 1) := by decide +kernel
theorem dX4_isRest_49 : decode mX4_isRest.2.1 49 = .ok (.iload 7, 2) := by decide +kernel
theorem dX4_isRest_51 : decode mX4_isRest.2.1 51 = .ok (.iload 6, 2) := by decide +kernel
theorem dX4_isRest_53 : decode mX4_isRest.2.1 53 = .ok (.iload 5, 2) := by decide +kernel
theorem dX4_isRest_55 : decode mX4_isRest.2.1 55 = .ok (.iload 4, 2) := by decide +kernel
theorem dX4_isRest_57 : decode mX4_isRest.2.1 57 = .ok (.invokestatic 119, 3) := by decide +kernel
theorem dX4_isRest_60 : decode mX4_isRest.2.1 60 = .ok (.aload_n 1, 1) := by decide +kernel
theorem dX4_isRest_61 : decode mX4_isRest.2.1 61 = .ok (.aload_n 2, 1) := by decide +kernel
theorem dX4_isRest_62 : decode mX4_isRest.2.1 62 = .ok (.iload 7, 2) := by decide +kernel
theorem dX4_isRest_64 : decode mX4_isRest.2.1 64 = .ok (.iload 6, 2) := by decide +kernel
theorem dX4_isRest_66 : decode mX4_isRest.2.1 66 = .ok (.iconst 1, 1) := by decide +kernel
theorem dX4_isRest_67 : decode mX4_isRest.2.1 67 = .ok (.iload 5, 2) := by decide +kernel
theorem dX4_isRest_69 : decode mX4_isRest.2.1 69 = .ok (.isub, 1) := by decide +kernel
theorem dX4_isRest_70 : decode mX4_isRest.2.1 70 = .ok (.iload 4, 2) := by decide +kernel
theorem dX4_isRest_72 : decode mX4_isRest.2.1 72 = .ok (.invokestatic 119, 3) := by decide +kernel
theorem dX4_isRest_75 : decode mX4_isRest.2.1 75 = .ok (.if_icmp .lt 7, 3) := by decide +kernel
theorem dX4_isRest_78 : decode mX4_isRest.2.1 78 = .ok (.iconst 1, 1) := by decide +kernel
theorem dX4_isRest_79 : decode mX4_isRest.2.1 79 = .ok (.goto 4, 3) := by decide +kernel
theorem dX4_isRest_82 : decode mX4_isRest.2.1 82 = .ok (.iconst 0, 1) := by decide +kernel
theorem dX4_isRest_83 : decode mX4_isRest.2.1 83 = .ok (.ireturn, 1) := by decide +kernel
theorem bX4_isRest_0 {E : px_E} {d : Nat} {w : pw_W} {Q : Option Value → pw_W → Prop} {t : ct_T} (hw : w.1 = cs t) {x3 x4 x5 : Int32} {r1 : Nat} (hr1 : is_Hamlet r1) {r2 : Nat} (j1 : Nat) (hj1 : x3 = nI j1) (hl1 : j1 < 9)
    (k1 : px_Call E d 0 0 mX4_worth [.ref r1, .ref r2, .int (pw_I w (r1 + 4) j1), .int (pw_I w (r1 + 5) j1), .int x4, .int x5] w (fun v w' => px_W E mX4_isRest (d + 1) 0 0 29 [.null, .ref r1, .ref r2, .null, .int x4, .int x5, .int (pw_I w (r1 + 4) j1), .int (pw_I w (r1 + 5) j1)] (v.toList ++ []) w' Q)) :
    px_W E mX4_isRest (d + 1) 0 0 0 [.null, .ref r1, .ref r2, .int x3, .int x4, .int x5, .null, .null] [] w Q := by
  refine px_aload_n dX4_isRest_0 rfl rfl ?_
  refine px_getR (v := (r1 + 4)) dX4_isRest_1 fr_4_99 rfl (px_sh1 hw hr1.sh) (px_rf hw hr1.rf5) (Nat.succ_ne_zero _) ?_
  refine px_iload_n dX4_isRest_4 rfl rfl ?_
  refine px_iald dX4_isRest_5 (px_sh2 hw hr1.sh4) (by decide) j1 hj1 hl1 ?_
  refine px_istore (ls' := [.null, .ref r1, .ref r2, .int x3, .int x4, .int x5, .int (pw_I w (r1 + 4) j1), .null]) dX4_isRest_6 ⟨by decide, rfl⟩ rfl ?_
  refine px_aload_n dX4_isRest_8 rfl rfl ?_
  refine px_getR (v := (r1 + 5)) dX4_isRest_9 fr_4_102 rfl (px_sh1 hw hr1.sh) (px_rf hw hr1.rf6) (Nat.succ_ne_zero _) ?_
  refine px_iload_n dX4_isRest_12 rfl rfl ?_
  refine px_iald dX4_isRest_13 (px_sh2 hw hr1.sh5) (by decide) j1 hj1 hl1 ?_
  refine px_istore (ls' := [.null, .ref r1, .ref r2, .int x3, .int x4, .int x5, .int (pw_I w (r1 + 4) j1), .int (pw_I w (r1 + 5) j1)]) dX4_isRest_14 ⟨by decide, rfl⟩ rfl ?_
  refine px_aload_n dX4_isRest_16 rfl rfl ?_
  refine px_aload_n dX4_isRest_17 rfl rfl ?_
  refine px_iload dX4_isRest_18 rfl ?_
  refine px_iload dX4_isRest_20 rfl ?_
  refine px_iload dX4_isRest_22 rfl ?_
  refine px_iload dX4_isRest_24 rfl ?_
  refine px_forget (ls' := [.null, .ref r1, .ref r2, .null, .int x4, .int x5, .int (pw_I w (r1 + 4) j1), .int (pw_I w (r1 + 5) j1)]) ?_ ⟨Or.inl rfl, Or.inr rfl, Or.inr rfl, Or.inl rfl, Or.inr rfl, Or.inr rfl, Or.inr rfl, Or.inr rfl, trivial⟩
  exact px_callS (As := [.ref r1, .ref r2, .int (pw_I w (r1 + 4) j1), .int (pw_I w (r1 + 5) j1), .int x4, .int x5]) (st := []) (rc := 0) (rs := 0) (mc := 0) (ms := 0) dX4_isRest_26 lk_4_119 rfl rfl (Nat.le_of_ble_eq_true rfl) k1
theorem eX4_isRest {E : px_E} {d : Nat} {w : pw_W} {Q : Option Value → pw_W → Prop} {t : ct_T} (hw : w.1 = cs t) {x3 x4 x5 : Int32} {r1 : Nat} (hr1 : is_Hamlet r1) {r2 : Nat} (j1 : Nat) (hj1 : x3 = nI j1) (hl1 : j1 < 9)
    (k1 : px_Call E d 0 0 mX4_worth [.ref r1, .ref r2, .int (pw_I w (r1 + 4) j1), .int (pw_I w (r1 + 5) j1), .int x4, .int x5] w (fun v w' => px_W E mX4_isRest (d + 1) 0 0 29 [.null, .ref r1, .ref r2, .null, .int x4, .int x5, .int (pw_I w (r1 + 4) j1), .int (pw_I w (r1 + 5) j1)] (v.toList ++ []) w' Q)) :
    px_Call E (d + 1) 0 0 mX4_isRest [.ref 41, .ref r1, .ref r2, .int x3, .int x4, .int x5] w Q :=
  px_enter (k := 2) (by decide) (Nat.le_of_ble_eq_true rfl) rfl (px_forget (bX4_isRest_0 hw hr1 j1 hj1 hl1 k1) ⟨Or.inl rfl, Or.inr rfl, Or.inr rfl, Or.inr rfl, Or.inr rfl, Or.inr rfl, Or.inl rfl, Or.inl rfl, trivial⟩)
theorem bX4_isRest_29 {E : px_E} {d : Nat} {w : pw_W} {Q : Option Value → pw_W → Prop} {t : ct_T} (hw : w.1 = cs t) {x4 x5 x6 x7 y0 : Int32} {r1 : Nat} (hr1 : is_Hamlet r1) {r2 : Nat} 
    (k1 : px_Call E d 0 0 mX4_worth [.ref r1, .ref r2, .int x6, .int x7, .int (1 - x4), .int x5] w (fun v w' => px_W E mX4_isRest (d + 1) 0 0 44 [.null, .ref r1, .ref r2, .null, .int x4, .int x5, .int x6, .int x7] (v.toList ++ [.int y0]) w' Q)) :
    px_W E mX4_isRest (d + 1) 0 0 29 [.null, .ref r1, .ref r2, .null, .int x4, .int x5, .int x6, .int x7] [.int y0] w Q := by
  refine px_aload_n dX4_isRest_29 rfl rfl ?_
  refine px_aload_n dX4_isRest_30 rfl rfl ?_
  refine px_iload dX4_isRest_31 rfl ?_
  refine px_iload dX4_isRest_33 rfl ?_
  refine px_iconst dX4_isRest_35 ic_1 ?_
  refine px_iload dX4_isRest_36 rfl ?_
  refine px_isub dX4_isRest_38 ?_
  refine px_iload dX4_isRest_39 rfl ?_
  exact px_callS (As := [.ref r1, .ref r2, .int x6, .int x7, .int (1 - x4), .int x5]) (st := [.int y0]) (rc := 0) (rs := 0) (mc := 0) (ms := 0) dX4_isRest_41 lk_4_119 rfl rfl (Nat.le_of_ble_eq_true rfl) k1
theorem bX4_isRest_44 {E : px_E} {d : Nat} {w : pw_W} {Q : Option Value → pw_W → Prop} {t : ct_T} (hw : w.1 = cs t) {x4 x5 x6 x7 y0 y1 : Int32} {r1 : Nat} (hr1 : is_Hamlet r1) {r2 : Nat} 
    (k1 : y0 < y1 → px_W E mX4_isRest (d + 1) 0 0 82 [.null, .null, .null, .null, .null, .null, .null, .null] [] w Q)
    (k2 : ¬ y0 < y1 → px_Call E d 0 0 mX4_worth [.ref r1, .ref r2, .int x7, .int x6, .int x5, .int x4] w (fun v w' => px_W E mX4_isRest (d + 1) 0 0 60 [.null, .ref r1, .ref r2, .null, .int x4, .int x5, .int x6, .int x7] (v.toList ++ []) w' Q)) :
    px_W E mX4_isRest (d + 1) 0 0 44 [.null, .ref r1, .ref r2, .null, .int x4, .int x5, .int x6, .int x7] [.int y1, .int y0] w Q := by
  refine px_icmp_lt (tgt := 82) dX4_isRest_44 (by decide) (fun h1 => ?_) (fun h1 => ?_)
  ·
    exact px_forget (k1 h1) ⟨Or.inl rfl, Or.inl rfl, Or.inl rfl, Or.inl rfl, Or.inl rfl, Or.inl rfl, Or.inl rfl, Or.inl rfl, trivial⟩
  ·
    refine px_aload_n dX4_isRest_47 rfl rfl ?_
    refine px_aload_n dX4_isRest_48 rfl rfl ?_
    refine px_iload dX4_isRest_49 rfl ?_
    refine px_iload dX4_isRest_51 rfl ?_
    refine px_iload dX4_isRest_53 rfl ?_
    refine px_iload dX4_isRest_55 rfl ?_
    exact px_callS (As := [.ref r1, .ref r2, .int x7, .int x6, .int x5, .int x4]) (st := []) (rc := 0) (rs := 0) (mc := 0) (ms := 0) dX4_isRest_57 lk_4_119 rfl rfl (Nat.le_of_ble_eq_true rfl) (k2 h1)
theorem bX4_isRest_60 {E : px_E} {d : Nat} {w : pw_W} {Q : Option Value → pw_W → Prop} {t : ct_T} (hw : w.1 = cs t) {x4 x5 x6 x7 y0 : Int32} {r1 : Nat} (hr1 : is_Hamlet r1) {r2 : Nat} 
    (k1 : px_Call E d 0 0 mX4_worth [.ref r1, .ref r2, .int x7, .int x6, .int (1 - x5), .int x4] w (fun v w' => px_W E mX4_isRest (d + 1) 0 0 75 [.null, .null, .null, .null, .null, .null, .null, .null] (v.toList ++ [.int y0]) w' Q)) :
    px_W E mX4_isRest (d + 1) 0 0 60 [.null, .ref r1, .ref r2, .null, .int x4, .int x5, .int x6, .int x7] [.int y0] w Q := by
  refine px_aload_n dX4_isRest_60 rfl rfl ?_
  refine px_aload_n dX4_isRest_61 rfl rfl ?_
  refine px_iload dX4_isRest_62 rfl ?_
  refine px_iload dX4_isRest_64 rfl ?_
  refine px_iconst dX4_isRest_66 ic_1 ?_
  refine px_iload dX4_isRest_67 rfl ?_
  refine px_isub dX4_isRest_69 ?_
  refine px_iload dX4_isRest_70 rfl ?_
  refine px_forget (ls' := [.null, .null, .null, .null, .null, .null, .null, .null]) ?_ ⟨Or.inl rfl, Or.inl rfl, Or.inl rfl, Or.inl rfl, Or.inl rfl, Or.inl rfl, Or.inl rfl, Or.inl rfl, trivial⟩
  exact px_callS (As := [.ref r1, .ref r2, .int x7, .int x6, .int (1 - x5), .int x4]) (st := [.int y0]) (rc := 0) (rs := 0) (mc := 0) (ms := 0) dX4_isRest_72 lk_4_119 rfl rfl (Nat.le_of_ble_eq_true rfl) k1
theorem bX4_isRest_75 {E : px_E} {d : Nat} {w : pw_W} {Q : Option Value → pw_W → Prop} {t : ct_T} (hw : w.1 = cs t) {y0 y1 : Int32} {r1 : Nat} (hr1 : is_Hamlet r1) {r2 : Nat} 
    (k1 : y0 < y1 → px_W E mX4_isRest (d + 1) 0 0 82 [.null, .null, .null, .null, .null, .null, .null, .null] [] w Q)
    (k2 : ¬ y0 < y1 → px_W E mX4_isRest (d + 1) 0 0 83 [.null, .null, .null, .null, .null, .null, .null, .null] [.int 1] w Q) :
    px_W E mX4_isRest (d + 1) 0 0 75 [.null, .null, .null, .null, .null, .null, .null, .null] [.int y1, .int y0] w Q := by
  refine px_icmp_lt (tgt := 82) dX4_isRest_75 (by decide) (fun h1 => ?_) (fun h1 => ?_)
  ·
    exact (k1 h1)
  ·
    refine px_iconst dX4_isRest_78 ic_1 ?_
    refine px_goto (tgt := 83) dX4_isRest_79 (by decide) ?_
    exact (k2 h1)
theorem bX4_isRest_82 {E : px_E} {d : Nat} {w : pw_W} {Q : Option Value → pw_W → Prop} {t : ct_T} (hw : w.1 = cs t) {r1 : Nat} (hr1 : is_Hamlet r1) {r2 : Nat} 
    (k1 : px_W E mX4_isRest (d + 1) 0 0 83 [.null, .null, .null, .null, .null, .null, .null, .null] [.int 0] w Q) :
    px_W E mX4_isRest (d + 1) 0 0 82 [.null, .null, .null, .null, .null, .null, .null, .null] [] w Q := by
  refine px_iconst dX4_isRest_82 ic_0 ?_
  exact k1
theorem bX4_isRest_83 {E : px_E} {d : Nat} {w : pw_W} {Q : Option Value → pw_W → Prop} {t : ct_T} (hw : w.1 = cs t) {y0 : Int32} {r1 : Nat} (hr1 : is_Hamlet r1) {r2 : Nat} (hb1 : y0 = 0 ∨ y0 = 1)
    (k1 : Q (some (.int y0)) w) :
    px_W E mX4_isRest (d + 1) 0 0 83 [.null, .null, .null, .null, .null, .null, .null, .null] [.int y0] w Q := by
  exact px_ireturn dX4_isRest_83 rfl (px_nb (hb1)) k1
theorem dX4_worth_0 : decode mX4_worth.2.1 0 = .ok (.bipush 30, 2) := by decide +kernel
theorem dX4_worth_2 : decode mX4_worth.2.1 2 = .ok (.aload_n 1, 1) := by decide +kernel
theorem dX4_worth_3 : decode mX4_worth.2.1 3 = .ok (.getfield 42, 3) := by decide +kernel
theorem dX4_worth_6 : decode mX4_worth.2.1 6 = .ok (.iload_n 2, 1) := by decide +kernel
theorem dX4_worth_7 : decode mX4_worth.2.1 7 = .ok (.iaload, 1) := by decide +kernel
theorem dX4_worth_8 : decode mX4_worth.2.1 8 = .ok (.iload 4, 2) := by decide +kernel
theorem dX4_worth_10 : decode mX4_worth.2.1 10 = .ok (.iconst 5, 1) := by decide +kernel
theorem dX4_worth_11 : decode mX4_worth.2.1 11 = .ok (.imul, 1) := by decide +kernel
theorem dX4_worth_12 : decode mX4_worth.2.1 12 = .ok (.iadd, 1) := by decide +kernel
theorem dX4_worth_13 : decode mX4_worth.2.1 13 = .ok (.invokestatic 80, 3) := by decide +kernel
theorem dX4_worth_16 : decode mX4_worth.2.1 16 = .ok (.istore 6, 2) := by decide +kernel
theorem dX4_worth_18 : decode mX4_worth.2.1 18 = .ok (.bipush 30, 2) := by decide +kernel
theorem dX4_worth_20 : decode mX4_worth.2.1 20 = .ok (.aload_n 1, 1) := by decide +kernel
theorem dX4_worth_21 : decode mX4_worth.2.1 21 = .ok (.getfield 42, 3) := by decide +kernel
theorem dX4_worth_24 : decode mX4_worth.2.1 24 = .ok (.iload_n 3, 1) := by decide +kernel
theorem dX4_worth_25 : decode mX4_worth.2.1 25 = .ok (.iaload, 1) := by decide +kernel
theorem dX4_worth_26 : decode mX4_worth.2.1 26 = .ok (.iload 5, 2) := by decide +kernel
theorem dX4_worth_28 : decode mX4_worth.2.1 28 = .ok (.iconst 5, 1) := by decide +kernel
theorem dX4_worth_29 : decode mX4_worth.2.1 29 = .ok (.imul, 1) := by decide +kernel
theorem dX4_worth_30 : decode mX4_worth.2.1 30 = .ok (.iadd, 1) := by decide +kernel
theorem dX4_worth_31 : decode mX4_worth.2.1 31 = .ok (.invokestatic 80, 3) := by decide +kernel
theorem dX4_worth_34 : decode mX4_worth.2.1 34 = .ok (.istore 7, 2) := by decide +kernel
theorem dX4_worth_36 : decode mX4_worth.2.1 36 = .ok (.aload_n 0, 1) := by decide +kernel
theorem dX4_worth_37 : decode mX4_worth.2.1 37 = .ok (.getfield 123, 3) := by decide +kernel
theorem dX4_worth_40 : decode mX4_worth.2.1 40 = .ok (.iload 6, 2) := by decide +kernel
theorem dX4_worth_42 : decode mX4_worth.2.1 42 = .ok (.iload 7, 2) := by decide +kernel
theorem dX4_worth_44 : decode mX4_worth.2.1 44 = .ok (.aload_n 1, 1) := by decide +kernel
theorem dX4_worth_45 : decode mX4_worth.2.1 45 = .ok (.getfield 35, 3) := by decide +kernel
theorem dX4_worth_48 : decode mX4_worth.2.1 48 = .ok (.iload_n 2, 1) := by decide +kernel
theorem dX4_worth_49 : decode mX4_worth.2.1 49 = .ok (.iaload, 1) := by decide +kernel
theorem dX4_worth_50 : decode mX4_worth.2.1 50 = .ok (.aload_n 1, 1) := by decide +kernel
theorem dX4_worth_51 : decode mX4_worth.2.1 51 = .ok (.getfield 127, 3) := by decide +kernel
theorem dX4_worth_54 : decode mX4_worth.2.1 54 = .ok (.invokevirtual 130, 3) := by decide +kernel
theorem dX4_worth_57 : decode mX4_worth.2.1 57 = .ok (.ineg, 1) := by decide +kernel
theorem dX4_worth_58 : decode mX4_worth.2.1 58 = .ok (.iload 4, 2) := by decide +kernel
theorem dX4_worth_60 : decode mX4_worth.2.1 60 = .ok (.isub, 1) := by decide +kernel
theorem dX4_worth_61 : decode mX4_worth.2.1 61 = .ok (.ireturn, 1) := by decide +kernel
theorem bX4_worth_0 {E : px_E} {d : Nat} {w : pw_W} {Q : Option Value → pw_W → Prop} {t : ct_T} (hw : w.1 = cs t) {x2 x3 x4 x5 : Int32} {r0 : Nat} (hr0 : is_Hamlet r0) {r1 : Nat} (hr1 : is_State r1) (j1 : Nat) (hj1 : x2 = nI j1) (hl1 : j1 < 6) (j2 : Nat) (hj2 : x3 = nI j2) (hl2 : j2 < 6)
    (k1 : px_Call E d 0 0 mX1_lumpsLeft [.ref (r0 + 10), .int (js_min 30 ((pw_I w (r1 + 2) j1) + (x4 * 5))), .int (js_min 30 ((pw_I w (r1 + 2) j2) + (x5 * 5))), .int (pw_I w (r1 + 1) j1), .int (pw_I w r1 3)] w (fun v w' => px_W E mX4_worth (d + 1) 0 0 57 [.null, .null, .null, .null, .int x4, .null, .null, .null] (v.toList ++ []) w' Q)) :
    px_W E mX4_worth (d + 1) 0 0 0 [.ref r0, .ref r1, .int x2, .int x3, .int x4, .int x5, .null, .null] [] w Q := by
  refine px_bipush dX4_worth_0 bp_30 ?_
  refine px_aload_n dX4_worth_2 rfl rfl ?_
  refine px_getR (v := (r1 + 2)) dX4_worth_3 fr_4_42 rfl (px_sh1 hw hr1.sh) (px_rf hw hr1.rf1) (Nat.succ_ne_zero _) ?_
  refine px_iload_n dX4_worth_6 rfl rfl ?_
  refine px_iald dX4_worth_7 (px_sh2 hw hr1.sh2) (by decide) j1 hj1 hl1 ?_
  refine px_iload dX4_worth_8 rfl ?_
  refine px_iconst dX4_worth_10 ic_5 ?_
  refine px_imul dX4_worth_11 ?_
  refine px_iadd dX4_worth_12 ?_
  refine px_mmin dX4_worth_13 (px_in4 201 rfl rfl) (Nat.le_of_ble_eq_true rfl) (by omega) ?_
  refine px_istore (ls' := [.ref r0, .ref r1, .int x2, .int x3, .int x4, .int x5, .int (js_min 30 ((pw_I w (r1 + 2) j1) + (x4 * 5))), .null]) dX4_worth_16 ⟨by decide, rfl⟩ rfl ?_
  refine px_bipush dX4_worth_18 bp_30 ?_
  refine px_aload_n dX4_worth_20 rfl rfl ?_
  refine px_getR (v := (r1 + 2)) dX4_worth_21 fr_4_42 rfl (px_sh1 hw hr1.sh) (px_rf hw hr1.rf1) (Nat.succ_ne_zero _) ?_
  refine px_iload_n dX4_worth_24 rfl rfl ?_
  refine px_iald dX4_worth_25 (px_sh2 hw hr1.sh2) (by decide) j2 hj2 hl2 ?_
  refine px_iload dX4_worth_26 rfl ?_
  refine px_iconst dX4_worth_28 ic_5 ?_
  refine px_imul dX4_worth_29 ?_
  refine px_iadd dX4_worth_30 ?_
  refine px_mmin dX4_worth_31 (px_in4 201 rfl rfl) (Nat.le_of_ble_eq_true rfl) (by omega) ?_
  refine px_istore (ls' := [.ref r0, .ref r1, .int x2, .int x3, .int x4, .int x5, .int (js_min 30 ((pw_I w (r1 + 2) j1) + (x4 * 5))), .int (js_min 30 ((pw_I w (r1 + 2) j2) + (x5 * 5)))]) dX4_worth_34 ⟨by decide, rfl⟩ rfl ?_
  refine px_aload_n dX4_worth_36 rfl rfl ?_
  refine px_getR (v := (r0 + 10)) dX4_worth_37 fr_4_123 rfl (px_sh1 hw hr0.sh) (px_rf hw hr0.rf15) (Nat.succ_ne_zero _) ?_
  refine px_iload dX4_worth_40 rfl ?_
  refine px_iload dX4_worth_42 rfl ?_
  refine px_aload_n dX4_worth_44 rfl rfl ?_
  refine px_getR (v := (r1 + 1)) dX4_worth_45 fr_4_35 rfl (px_sh1 hw hr1.sh) (px_rf hw hr1.rf0) (Nat.succ_ne_zero _) ?_
  refine px_iload_n dX4_worth_48 rfl rfl ?_
  refine px_iald dX4_worth_49 (px_sh2 hw hr1.sh1) (by decide) j1 hj1 hl1 ?_
  refine px_aload_n dX4_worth_50 rfl rfl ?_
  refine px_getI dX4_worth_51 fr_4_127 rfl (px_sh1 hw hr1.sh) ?_
  refine px_forget (ls' := [.null, .null, .null, .null, .int x4, .null, .null, .null]) ?_ ⟨Or.inl rfl, Or.inl rfl, Or.inl rfl, Or.inl rfl, Or.inr rfl, Or.inl rfl, Or.inl rfl, Or.inl rfl, trivial⟩
  exact px_callV (As := [.int (js_min 30 ((pw_I w (r1 + 2) j1) + (x4 * 5))), .int (js_min 30 ((pw_I w (r1 + 2) j2) + (x5 * 5))), .int (pw_I w (r1 + 1) j1), .int (pw_I w r1 3)]) (st := []) (rc := 0) (rs := 0) (mc := 0) (ms := 0) dX4_worth_54 lk_4_130 (px_sh1 hw hr0.is10.sh) rfl rfl (Nat.le_of_ble_eq_true rfl) k1
theorem eX4_worth {E : px_E} {d : Nat} {w : pw_W} {Q : Option Value → pw_W → Prop} {t : ct_T} (hw : w.1 = cs t) {x2 x3 x4 x5 : Int32} {r0 : Nat} (hr0 : is_Hamlet r0) {r1 : Nat} (hr1 : is_State r1) (j1 : Nat) (hj1 : x2 = nI j1) (hl1 : j1 < 6) (j2 : Nat) (hj2 : x3 = nI j2) (hl2 : j2 < 6)
    (k1 : px_Call E d 0 0 mX1_lumpsLeft [.ref (r0 + 10), .int (js_min 30 ((pw_I w (r1 + 2) j1) + (x4 * 5))), .int (js_min 30 ((pw_I w (r1 + 2) j2) + (x5 * 5))), .int (pw_I w (r1 + 1) j1), .int (pw_I w r1 3)] w (fun v w' => px_W E mX4_worth (d + 1) 0 0 57 [.null, .null, .null, .null, .int x4, .null, .null, .null] (v.toList ++ []) w' Q)) :
    px_Call E (d + 1) 0 0 mX4_worth [.ref r0, .ref r1, .int x2, .int x3, .int x4, .int x5] w Q :=
  px_enter (k := 2) (by decide) (Nat.le_of_ble_eq_true rfl) rfl (px_forget (bX4_worth_0 hw hr0 hr1 j1 hj1 hl1 j2 hj2 hl2 k1) ⟨Or.inr rfl, Or.inr rfl, Or.inr rfl, Or.inr rfl, Or.inr rfl, Or.inr rfl, Or.inl rfl, Or.inl rfl, trivial⟩)
theorem bX4_worth_57 {E : px_E} {d : Nat} {w : pw_W} {Q : Option Value → pw_W → Prop} {t : ct_T} (hw : w.1 = cs t) {x4 y0 : Int32} {r0 : Nat} (hr0 : is_Hamlet r0) {r1 : Nat} (hr1 : is_State r1) 
    (k1 : Q (some (.int ((-y0) - x4))) w) :
    px_W E mX4_worth (d + 1) 0 0 57 [.null, .null, .null, .null, .int x4, .null, .null, .null] [.int y0] w Q := by
  refine px_ineg dX4_worth_57 ?_
  refine px_iload dX4_worth_58 rfl ?_
  refine px_isub dX4_worth_60 ?_
  exact px_ireturn dX4_worth_61 rfl rfl k1
theorem dX4_goOn_0 : decode mX4_goOn.2.1 0 = .ok (.iconst 0, 1) := by decide +kernel
theorem dX4_goOn_1 : decode mX4_goOn.2.1 1 = .ok (.istore 4, 2) := by decide +kernel
theorem dX4_goOn_3 : decode mX4_goOn.2.1 3 = .ok (.iload 4, 2) := by decide +kernel
theorem dX4_goOn_5 : decode mX4_goOn.2.1 5 = .ok (.iload_n 3, 1) := by decide +kernel
theorem dX4_goOn_6 : decode mX4_goOn.2.1 6 = .ok (.if_icmp .ge 20, 3) := by decide +kernel
theorem dX4_goOn_9 : decode mX4_goOn.2.1 9 = .ok (.aload_n 1, 1) := by decide +kernel
theorem dX4_goOn_10 : decode mX4_goOn.2.1 10 = .ok (.aload_n 0, 1) := by decide +kernel
theorem dX4_goOn_11 : decode mX4_goOn.2.1 11 = .ok (.getfield 12, 3) := by decide +kernel
theorem dX4_goOn_14 : decode mX4_goOn.2.1 14 = .ok (.aload_n 2, 1) := by decide +kernel
theorem dX4_goOn_15 : decode mX4_goOn.2.1 15 = .ok (.iconst 0, 1) := by decide +kernel
theorem dX4_goOn_16 : decode mX4_goOn.2.1 16 = .ok (.invokevirtual 31, 3) := by decide +kernel
theorem dX4_goOn_19 : decode mX4_goOn.2.1 19 = .ok (.pop, 1) := by decide +kernel
theorem dX4_goOn_20 : decode mX4_goOn.2.1 20 = .ok (.iinc 4 1, 3) := by decide +kernel
theorem dX4_goOn_23 : decode mX4_goOn.2.1 23 = .ok (.goto (-20), 3) := by decide +kernel
theorem dX4_goOn_26 : decode mX4_goOn.2.1 26 = .ok (.aload_n 1, 1) := by decide +kernel
theorem dX4_goOn_27 : decode mX4_goOn.2.1 27 = .ok (.aload_n 0, 1) := by decide +kernel
theorem dX4_goOn_28 : decode mX4_goOn.2.1 28 = .ok (.getfield 12, 3) := by decide +kernel
theorem dX4_goOn_31 : decode mX4_goOn.2.1 31 = .ok (.invokevirtual 136, 3) := by decide +kernel
theorem dX4_goOn_34 : decode mX4_goOn.2.1 34 = .ok (.ireturn, 1) := by decide +kernel
theorem bX4_goOn_0 {E : px_E} {d : Nat} {w : pw_W} {Q : Option Value → pw_W → Prop} {t : ct_T} (hw : w.1 = cs t) {x3 : Int32} {r1 : Nat} (hr1 : is_Hamlet r1) {r2 : Nat} 
    (k1 : px_W E mX4_goOn (d + 1) 0 0 3 [.ref 41, .ref r1, .ref r2, .int x3, .int 0] [] w Q) :
    px_W E mX4_goOn (d + 1) 0 0 0 [.ref 41, .ref r1, .ref r2, .int x3, .null] [] w Q := by
  refine px_iconst dX4_goOn_0 ic_0 ?_
  refine px_istore (ls' := [.ref 41, .ref r1, .ref r2, .int x3, .int 0]) dX4_goOn_1 ⟨by decide, rfl⟩ rfl ?_
  exact k1
theorem eX4_goOn {E : px_E} {d : Nat} {w : pw_W} {Q : Option Value → pw_W → Prop} {t : ct_T} (hw : w.1 = cs t) {x3 : Int32} {r1 : Nat} (hr1 : is_Hamlet r1) {r2 : Nat} 
    (k1 : px_W E mX4_goOn (d + 1) 0 0 3 [.ref 41, .ref r1, .ref r2, .int x3, .int 0] [] w Q) :
    px_Call E (d + 1) 0 0 mX4_goOn [.ref 41, .ref r1, .ref r2, .int x3] w Q :=
  px_enter (k := 1) (by decide) (Nat.le_of_ble_eq_true rfl) rfl (px_forget (bX4_goOn_0 hw hr1 k1) ⟨Or.inr rfl, Or.inr rfl, Or.inr rfl, Or.inr rfl, Or.inl rfl, trivial⟩)
theorem bX4_goOn_3 {E : px_E} {d : Nat} {w : pw_W} {Q : Option Value → pw_W → Prop} {t : ct_T} (hw : w.1 = cs t) {x3 x4 : Int32} {r1 : Nat} (hr1 : is_Hamlet r1) {r2 : Nat} 
    (k1 : x3 ≤ x4 → px_Call E d 0 0 mX2_allLumps [.ref r1, .ref 42] w (fun v w' => px_W E mX4_goOn (d + 1) 0 0 34 [.null, .null, .null, .null, .null] (v.toList ++ []) w' Q))
    (k2 : ¬ x3 ≤ x4 → px_Call E d 0 0 mX2_passDay [.ref r1, .ref 42, .ref r2, .int 0] w (fun v w' => px_W E mX4_goOn (d + 1) 0 0 19 [.ref 41, .ref r1, .ref r2, .int x3, .int x4] (v.toList ++ []) w' Q)) :
    px_W E mX4_goOn (d + 1) 0 0 3 [.ref 41, .ref r1, .ref r2, .int x3, .int x4] [] w Q := by
  refine px_iload dX4_goOn_3 rfl ?_
  refine px_iload_n dX4_goOn_5 rfl rfl ?_
  refine px_icmp_ge (tgt := 26) dX4_goOn_6 (by decide) (fun h1 => ?_) (fun h1 => ?_)
  ·
    refine px_aload_n dX4_goOn_26 rfl rfl ?_
    refine px_aload_n dX4_goOn_27 rfl rfl ?_
    refine px_getR (v := 42) dX4_goOn_28 fr_4_12 rfl (px_sh1 hw sh_41) (px_rf hw rf_41_0) (by decide) ?_
    refine px_forget (ls' := [.null, .null, .null, .null, .null]) ?_ ⟨Or.inl rfl, Or.inl rfl, Or.inl rfl, Or.inl rfl, Or.inl rfl, trivial⟩
    exact px_callV (As := [.ref 42]) (st := []) (rc := 0) (rs := 0) (mc := 0) (ms := 0) dX4_goOn_31 lk_4_136 (px_sh1 hw hr1.sh) rfl rfl (Nat.le_of_ble_eq_true rfl) (k1 h1)
  ·
    refine px_aload_n dX4_goOn_9 rfl rfl ?_
    refine px_aload_n dX4_goOn_10 rfl rfl ?_
    refine px_getR (v := 42) dX4_goOn_11 fr_4_12 rfl (px_sh1 hw sh_41) (px_rf hw rf_41_0) (by decide) ?_
    refine px_aload_n dX4_goOn_14 rfl rfl ?_
    refine px_iconst dX4_goOn_15 ic_0 ?_
    exact px_callV (As := [.ref 42, .ref r2, .int 0]) (st := []) (rc := 0) (rs := 0) (mc := 0) (ms := 0) dX4_goOn_16 lk_4_31 (px_sh1 hw hr1.sh) rfl rfl (Nat.le_of_ble_eq_true rfl) (k2 h1)
theorem bX4_goOn_19 {E : px_E} {d : Nat} {w : pw_W} {Q : Option Value → pw_W → Prop} {t : ct_T} (hw : w.1 = cs t) {x3 x4 y0 : Int32} {r1 : Nat} (hr1 : is_Hamlet r1) {r2 : Nat} 
    (k1 : px_W E mX4_goOn (d + 1) 0 0 3 [.ref 41, .ref r1, .ref r2, .int x3, .int (x4 + 1)] [] w Q) :
    px_W E mX4_goOn (d + 1) 0 0 19 [.ref 41, .ref r1, .ref r2, .int x3, .int x4] [.int y0] w Q := by
  refine px_pop dX4_goOn_19 rfl ?_
  refine px_iinc (ls' := [.ref 41, .ref r1, .ref r2, .int x3, .int (x4 + 1)]) dX4_goOn_20 ⟨by decide, rfl⟩ rfl rfl rfl ?_
  refine px_goto (tgt := 3) dX4_goOn_23 (by decide) ?_
  exact k1
theorem bX4_goOn_34 {E : px_E} {d : Nat} {w : pw_W} {Q : Option Value → pw_W → Prop} {t : ct_T} (hw : w.1 = cs t) {y0 : Int32} {r1 : Nat} (hr1 : is_Hamlet r1) {r2 : Nat} 
    (k1 : Q (some (.int y0)) w) :
    px_W E mX4_goOn (d + 1) 0 0 34 [.null, .null, .null, .null, .null] [.int y0] w Q := by
  exact px_ireturn dX4_goOn_34 rfl rfl k1
theorem dX4_goOnTillAbed_0 : decode mX4_goOnTillAbed.2.1 0 = .ok (.iconst 0, 1) := by decide +kernel
theorem dX4_goOnTillAbed_1 : decode mX4_goOnTillAbed.2.1 1 = .ok (.istore 4, 2) := by decide +kernel
theorem dX4_goOnTillAbed_3 : decode mX4_goOnTillAbed.2.1 3 = .ok (.iload 4, 2) := by decide +kernel
theorem dX4_goOnTillAbed_5 : decode mX4_goOnTillAbed.2.1 5 = .ok (.iload_n 3, 1) := by decide +kernel
theorem dX4_goOnTillAbed_6 : decode mX4_goOnTillAbed.2.1 6 = .ok (.if_icmp .gt 45, 3) := by decide +kernel
theorem dX4_goOnTillAbed_9 : decode mX4_goOnTillAbed.2.1 9 = .ok (.aload_n 1, 1) := by decide +kernel
theorem dX4_goOnTillAbed_10 : decode mX4_goOnTillAbed.2.1 10 = .ok (.aload_n 0, 1) := by decide +kernel
theorem dX4_goOnTillAbed_11 : decode mX4_goOnTillAbed.2.1 11 = .ok (.getfield 12, 3) := by decide +kernel
theorem dX4_goOnTillAbed_14 : decode mX4_goOnTillAbed.2.1 14 = .ok (.invokevirtual 139, 3) := by decide +kernel
theorem dX4_goOnTillAbed_17 : decode mX4_goOnTillAbed.2.1 17 = .ok (.iload_n 2, 1) := by decide +kernel
theorem dX4_goOnTillAbed_18 : decode mX4_goOnTillAbed.2.1 18 = .ok (.iand, 1) := by decide +kernel
theorem dX4_goOnTillAbed_19 : decode mX4_goOnTillAbed.2.1 19 = .ok (.ifCond .eq 6, 3) := by decide +kernel
theorem dX4_goOnTillAbed_22 : decode mX4_goOnTillAbed.2.1 22 = .ok (.iload 4, 2) := by decide +kernel
theorem dX4_goOnTillAbed_24 : decode mX4_goOnTillAbed.2.1 24 = .ok (.ireturn, 1) := by decide +kernel
theorem dX4_goOnTillAbed_25 : decode mX4_goOnTillAbed.2.1 25 = .ok (.iload 4, 2) := by decide +kernel
theorem dX4_goOnTillAbed_27 : decode mX4_goOnTillAbed.2.1 27 = .ok (.iload_n 3, 1) := by decide +kernel
theorem dX4_goOnTillAbed_28 : decode mX4_goOnTillAbed.2.1 28 = .ok (.if_icmp .ge 17, 3) := by decide +kernel
theorem dX4_goOnTillAbed_31 : decode mX4_goOnTillAbed.2.1 31 = .ok (.aload_n 1, 1) := by decide +kernel
theorem dX4_goOnTillAbed_32 : decode mX4_goOnTillAbed.2.1 32 = .ok (.aload_n 0, 1) := by decide +kernel
theorem dX4_goOnTillAbed_33 : decode mX4_goOnTillAbed.2.1 33 = .ok (.getfield 12, 3) := by decide +kernel
theorem dX4_goOnTillAbed_36 : decode mX4_goOnTillAbed.2.1 36 = .ok (.aload_n 1, 1) := by decide +kernel
theorem dX4_goOnTillAbed_37 : decode mX4_goOnTillAbed.2.1 37 = .ok (.getfield 26, 3) := by decide +kernel
theorem dX4_goOnTillAbed_40 : decode mX4_goOnTillAbed.2.1 40 = .ok (.iconst 0, 1) := by decide +kernel
theorem dX4_goOnTillAbed_41 : decode mX4_goOnTillAbed.2.1 41 = .ok (.invokevirtual 31, 3) := by decide +kernel
theorem dX4_goOnTillAbed_44 : decode mX4_goOnTillAbed.2.1 44 = .ok (.pop, 1) := by decide +kernel
theorem dX4_goOnTillAbed_45 : decode mX4_goOnTillAbed.2.1 45 = .ok (.iinc 4 1, 3) := by decide +kernel
theorem dX4_goOnTillAbed_48 : decode mX4_goOnTillAbed.2.1 48 = .ok (.goto (-45), 3) := by decide +kernel
theorem dX4_goOnTillAbed_51 : decode mX4_goOnTillAbed.2.1 51 = .ok (.iconst (-1), 1) := by decide +kernel
theorem dX4_goOnTillAbed_52 : decode mX4_goOnTillAbed.2.1 52 = .ok (.ireturn, 1) := by decide +kernel
theorem bX4_goOnTillAbed_0 {E : px_E} {d : Nat} {w : pw_W} {Q : Option Value → pw_W → Prop} {t : ct_T} (hw : w.1 = cs t) {x2 x3 : Int32} {r1 : Nat} (hr1 : is_Hamlet r1) 
    (k1 : px_W E mX4_goOnTillAbed (d + 1) 0 0 3 [.ref 41, .ref r1, .int x2, .int x3, .int 0] [] w Q) :
    px_W E mX4_goOnTillAbed (d + 1) 0 0 0 [.ref 41, .ref r1, .int x2, .int x3, .null] [] w Q := by
  refine px_iconst dX4_goOnTillAbed_0 ic_0 ?_
  refine px_istore (ls' := [.ref 41, .ref r1, .int x2, .int x3, .int 0]) dX4_goOnTillAbed_1 ⟨by decide, rfl⟩ rfl ?_
  exact k1
theorem eX4_goOnTillAbed {E : px_E} {d : Nat} {w : pw_W} {Q : Option Value → pw_W → Prop} {t : ct_T} (hw : w.1 = cs t) {x2 x3 : Int32} {r1 : Nat} (hr1 : is_Hamlet r1) 
    (k1 : px_W E mX4_goOnTillAbed (d + 1) 0 0 3 [.ref 41, .ref r1, .int x2, .int x3, .int 0] [] w Q) :
    px_Call E (d + 1) 0 0 mX4_goOnTillAbed [.ref 41, .ref r1, .int x2, .int x3] w Q :=
  px_enter (k := 1) (by decide) (Nat.le_of_ble_eq_true rfl) rfl (px_forget (bX4_goOnTillAbed_0 hw hr1 k1) ⟨Or.inr rfl, Or.inr rfl, Or.inr rfl, Or.inr rfl, Or.inl rfl, trivial⟩)
theorem bX4_goOnTillAbed_3 {E : px_E} {d : Nat} {w : pw_W} {Q : Option Value → pw_W → Prop} {t : ct_T} (hw : w.1 = cs t) {x2 x3 x4 : Int32} {r1 : Nat} (hr1 : is_Hamlet r1) 
    (k1 : x3 < x4 → Q (some (.int (-1))) w)
    (k2 : ¬ x3 < x4 → px_Call E d 0 0 mX2_abedBits [.ref r1, .ref 42] w (fun v w' => px_W E mX4_goOnTillAbed (d + 1) 0 0 17 [.ref 41, .ref r1, .int x2, .int x3, .int x4] (v.toList ++ []) w' Q)) :
    px_W E mX4_goOnTillAbed (d + 1) 0 0 3 [.ref 41, .ref r1, .int x2, .int x3, .int x4] [] w Q := by
  refine px_iload dX4_goOnTillAbed_3 rfl ?_
  refine px_iload_n dX4_goOnTillAbed_5 rfl rfl ?_
  refine px_icmp_gt (tgt := 51) dX4_goOnTillAbed_6 (by decide) (fun h1 => ?_) (fun h1 => ?_)
  ·
    refine px_iconst dX4_goOnTillAbed_51 ic_m1 ?_
    exact px_ireturn dX4_goOnTillAbed_52 rfl rfl (k1 h1)
  ·
    refine px_aload_n dX4_goOnTillAbed_9 rfl rfl ?_
    refine px_aload_n dX4_goOnTillAbed_10 rfl rfl ?_
    refine px_getR (v := 42) dX4_goOnTillAbed_11 fr_4_12 rfl (px_sh1 hw sh_41) (px_rf hw rf_41_0) (by decide) ?_
    exact px_callV (As := [.ref 42]) (st := []) (rc := 0) (rs := 0) (mc := 0) (ms := 0) dX4_goOnTillAbed_14 lk_4_139 (px_sh1 hw hr1.sh) rfl rfl (Nat.le_of_ble_eq_true rfl) (k2 h1)
theorem bX4_goOnTillAbed_17 {E : px_E} {d : Nat} {w : pw_W} {Q : Option Value → pw_W → Prop} {t : ct_T} (hw : w.1 = cs t) {x2 x3 x4 y0 : Int32} {r1 : Nat} (hr1 : is_Hamlet r1) 
    (k1 : (y0 &&& x2) = 0 → x3 ≤ x4 → px_W E mX4_goOnTillAbed (d + 1) 0 0 45 [.ref 41, .ref r1, .int x2, .int x3, .int x4] [] w Q)
    (k2 : (y0 &&& x2) = 0 → ¬ x3 ≤ x4 → px_Call E d 0 0 mX2_passDay [.ref r1, .ref 42, .ref (r1 + 9), .int 0] w (fun v w' => px_W E mX4_goOnTillAbed (d + 1) 0 0 44 [.ref 41, .ref r1, .int x2, .int x3, .int x4] (v.toList ++ []) w' Q))
    (k3 : ¬ (y0 &&& x2) = 0 → Q (some (.int x4)) w) :
    px_W E mX4_goOnTillAbed (d + 1) 0 0 17 [.ref 41, .ref r1, .int x2, .int x3, .int x4] [.int y0] w Q := by
  refine px_iload_n dX4_goOnTillAbed_17 rfl rfl ?_
  refine px_iand dX4_goOnTillAbed_18 ?_
  refine px_if_eq (tgt := 25) dX4_goOnTillAbed_19 (by decide) (fun h1 => ?_) (fun h1 => ?_)
  ·
    refine px_iload dX4_goOnTillAbed_25 rfl ?_
    refine px_iload_n dX4_goOnTillAbed_27 rfl rfl ?_
    refine px_icmp_ge (tgt := 45) dX4_goOnTillAbed_28 (by decide) (fun h2 => ?_) (fun h2 => ?_)
    ·
      exact (k1 h1 h2)
    ·
      refine px_aload_n dX4_goOnTillAbed_31 rfl rfl ?_
      refine px_aload_n dX4_goOnTillAbed_32 rfl rfl ?_
      refine px_getR (v := 42) dX4_goOnTillAbed_33 fr_4_12 rfl (px_sh1 hw sh_41) (px_rf hw rf_41_0) (by decide) ?_
      refine px_aload_n dX4_goOnTillAbed_36 rfl rfl ?_
      refine px_getR (v := (r1 + 9)) dX4_goOnTillAbed_37 fr_4_26 rfl (px_sh1 hw hr1.sh) (px_rf hw hr1.rf11) (Nat.succ_ne_zero _) ?_
      refine px_iconst dX4_goOnTillAbed_40 ic_0 ?_
      exact px_callV (As := [.ref 42, .ref (r1 + 9), .int 0]) (st := []) (rc := 0) (rs := 0) (mc := 0) (ms := 0) dX4_goOnTillAbed_41 lk_4_31 (px_sh1 hw hr1.sh) rfl rfl (Nat.le_of_ble_eq_true rfl) (k2 h1 h2)
  ·
    refine px_iload dX4_goOnTillAbed_22 rfl ?_
    exact px_ireturn dX4_goOnTillAbed_24 rfl rfl (k3 h1)
theorem bX4_goOnTillAbed_44 {E : px_E} {d : Nat} {w : pw_W} {Q : Option Value → pw_W → Prop} {t : ct_T} (hw : w.1 = cs t) {x2 x3 x4 y0 : Int32} {r1 : Nat} (hr1 : is_Hamlet r1) 
    (k1 : px_W E mX4_goOnTillAbed (d + 1) 0 0 45 [.ref 41, .ref r1, .int x2, .int x3, .int x4] [] w Q) :
    px_W E mX4_goOnTillAbed (d + 1) 0 0 44 [.ref 41, .ref r1, .int x2, .int x3, .int x4] [.int y0] w Q := by
  refine px_pop dX4_goOnTillAbed_44 rfl ?_
  exact k1
theorem bX4_goOnTillAbed_45 {E : px_E} {d : Nat} {w : pw_W} {Q : Option Value → pw_W → Prop} {t : ct_T} (hw : w.1 = cs t) {x2 x3 x4 : Int32} {r1 : Nat} (hr1 : is_Hamlet r1) 
    (k1 : px_W E mX4_goOnTillAbed (d + 1) 0 0 3 [.ref 41, .ref r1, .int x2, .int x3, .int (x4 + 1)] [] w Q) :
    px_W E mX4_goOnTillAbed (d + 1) 0 0 45 [.ref 41, .ref r1, .int x2, .int x3, .int x4] [] w Q := by
  refine px_iinc (ls' := [.ref 41, .ref r1, .int x2, .int x3, .int (x4 + 1)]) dX4_goOnTillAbed_45 ⟨by decide, rfl⟩ rfl rfl rfl ?_
  refine px_goto (tgt := 3) dX4_goOnTillAbed_48 (by decide) ?_
  exact k1
theorem dX4_weigh_0 : decode mX4_weigh.2.1 0 = .ok (.aload_n 0, 1) := by decide +kernel
theorem dX4_weigh_1 : decode mX4_weigh.2.1 1 = .ok (.getfield 90, 3) := by decide +kernel
theorem dX4_weigh_4 : decode mX4_weigh.2.1 4 = .ok (.iconst (-1), 1) := by decide +kernel
theorem dX4_weigh_5 : decode mX4_weigh.2.1 5 = .ok (.if_icmp .eq 11, 3) := by decide +kernel
theorem dX4_weigh_8 : decode mX4_weigh.2.1 8 = .ok (.iload_n 2, 1) := by decide +kernel
theorem dX4_weigh_9 : decode mX4_weigh.2.1 9 = .ok (.aload_n 0, 1) := by decide +kernel
theorem dX4_weigh_10 : decode mX4_weigh.2.1 10 = .ok (.getfield 142, 3) := by decide +kernel
theorem dX4_weigh_13 : decode mX4_weigh.2.1 13 = .ok (.if_icmp .ge 13, 3) := by decide +kernel
theorem dX4_weigh_16 : decode mX4_weigh.2.1 16 = .ok (.aload_n 0, 1) := by decide +kernel
theorem dX4_weigh_17 : decode mX4_weigh.2.1 17 = .ok (.iload_n 1, 1) := by decide +kernel
theorem dX4_weigh_18 : decode mX4_weigh.2.1 18 = .ok (.putfield 90, 3) := by decide +kernel
theorem dX4_weigh_21 : decode mX4_weigh.2.1 21 = .ok (.aload_n 0, 1) := by decide +kernel
theorem dX4_weigh_22 : decode mX4_weigh.2.1 22 = .ok (.iload_n 2, 1) := by decide +kernel
theorem dX4_weigh_23 : decode mX4_weigh.2.1 23 = .ok (.putfield 142, 3) := by decide +kernel
theorem dX4_weigh_26 : decode mX4_weigh.2.1 26 = .ok (.return_, 1) := by decide +kernel
theorem bX4_weigh_0 {E : px_E} {d : Nat} {w : pw_W} {Q : Option Value → pw_W → Prop} {t : ct_T} (hw : w.1 = cs t) {x1 x2 : Int32}  
    (k1 : (pw_I w 41 2) = (-1) → px_W E mX4_weigh (d + 1) 0 0 16 [.ref 41, .int x1, .int x2] [] w Q)
    (k2 : ¬ (pw_I w 41 2) = (-1) → (pw_I w 41 3) ≤ x2 → px_W E mX4_weigh (d + 1) 0 0 26 [.null, .null, .null] [] w Q)
    (k3 : ¬ (pw_I w 41 2) = (-1) → ¬ (pw_I w 41 3) ≤ x2 → px_W E mX4_weigh (d + 1) 0 0 16 [.ref 41, .int x1, .int x2] [] w Q) :
    px_W E mX4_weigh (d + 1) 0 0 0 [.ref 41, .int x1, .int x2] [] w Q := by
  refine px_aload_n dX4_weigh_0 rfl rfl ?_
  refine px_getI dX4_weigh_1 fr_4_90 rfl (px_sh1 hw sh_41) ?_
  refine px_iconst dX4_weigh_4 ic_m1 ?_
  refine px_icmp_eq (tgt := 16) dX4_weigh_5 (by decide) (fun h1 => ?_) (fun h1 => ?_)
  ·
    exact (k1 h1)
  ·
    refine px_iload_n dX4_weigh_8 rfl rfl ?_
    refine px_aload_n dX4_weigh_9 rfl rfl ?_
    refine px_getI dX4_weigh_10 fr_4_142 rfl (px_sh1 hw sh_41) ?_
    refine px_icmp_ge (tgt := 26) dX4_weigh_13 (by decide) (fun h2 => ?_) (fun h2 => ?_)
    ·
      exact px_forget (k2 h1 h2) ⟨Or.inl rfl, Or.inl rfl, Or.inl rfl, trivial⟩
    ·
      exact (k3 h1 h2)
theorem eX4_weigh {E : px_E} {d : Nat} {w : pw_W} {Q : Option Value → pw_W → Prop} {t : ct_T} (hw : w.1 = cs t) {x1 x2 : Int32}  
    (k1 : (pw_I w 41 2) = (-1) → px_W E mX4_weigh (d + 1) 0 0 16 [.ref 41, .int x1, .int x2] [] w Q)
    (k2 : ¬ (pw_I w 41 2) = (-1) → (pw_I w 41 3) ≤ x2 → px_W E mX4_weigh (d + 1) 0 0 26 [.null, .null, .null] [] w Q)
    (k3 : ¬ (pw_I w 41 2) = (-1) → ¬ (pw_I w 41 3) ≤ x2 → px_W E mX4_weigh (d + 1) 0 0 16 [.ref 41, .int x1, .int x2] [] w Q) :
    px_Call E (d + 1) 0 0 mX4_weigh [.ref 41, .int x1, .int x2] w Q :=
  px_enter (k := 0) (by decide) (Nat.le_of_ble_eq_true rfl) rfl (px_forget (bX4_weigh_0 hw k1 k2 k3) ⟨Or.inr rfl, Or.inr rfl, Or.inr rfl, trivial⟩)
theorem bX4_weigh_16 {E : px_E} {d : Nat} {w : pw_W} {Q : Option Value → pw_W → Prop} {t : ct_T} (hw : w.1 = cs t) {x1 x2 : Int32}  
    (k1 : px_W E mX4_weigh (d + 1) 0 0 26 [.null, .null, .null] [] (pw_sI (pw_sI w 41 2 x1) 41 3 x2) Q) :
    px_W E mX4_weigh (d + 1) 0 0 16 [.ref 41, .int x1, .int x2] [] w Q := by
  refine px_aload_n dX4_weigh_16 rfl rfl ?_
  refine px_iload_n dX4_weigh_17 rfl rfl ?_
  refine px_putI dX4_weigh_18 fl_4_90 (Or.inl rfl) rfl (px_sh1 hw sh_41) rfl rfl (by omega) ?_
  refine px_aload_n dX4_weigh_21 rfl rfl ?_
  refine px_iload_n dX4_weigh_22 rfl rfl ?_
  refine px_putI dX4_weigh_23 fl_4_142 (Or.inl rfl) rfl (px_sh1 (hI hw) sh_41) rfl rfl (by omega) ?_
  exact px_forget k1 ⟨Or.inl rfl, Or.inl rfl, Or.inl rfl, trivial⟩
theorem bX4_weigh_26 {E : px_E} {d : Nat} {w : pw_W} {Q : Option Value → pw_W → Prop} {t : ct_T} (hw : w.1 = cs t)  
    (k1 : Q none w) :
    px_W E mX4_weigh (d + 1) 0 0 26 [.null, .null, .null] [] w Q := by
  exact px_return dX4_weigh_26 rfl k1
theorem dX4_sortFromLeast_0 : decode mX4_sortFromLeast.2.1 0 = .ok (.iload_n 1, 1) := by decide +kernel
theorem dX4_sortFromLeast_1 : decode mX4_sortFromLeast.2.1 1 = .ok (.istore_n 3, 1) := by decide +kernel
theorem dX4_sortFromLeast_2 : decode mX4_sortFromLeast.2.1 2 = .ok (.iload_n 3, 1) := by decide +kernel
theorem dX4_sortFromLeast_3 : decode mX4_sortFromLeast.2.1 3 = .ok (.iload_n 1, 1) := by decide +kernel
theorem dX4_sortFromLeast_4 : decode mX4_sortFromLeast.2.1 4 = .ok (.iload_n 2, 1) := by decide +kernel
theorem dX4_sortFromLeast_5 : decode mX4_sortFromLeast.2.1 5 = .ok (.iadd, 1) := by decide +kernel
theorem dX4_sortFromLeast_6 : decode mX4_sortFromLeast.2.1 6 = .ok (.if_icmp .ge 51, 3) := by decide +kernel
theorem dX4_sortFromLeast_9 : decode mX4_sortFromLeast.2.1 9 = .ok (.iload_n 3, 1) := by decide +kernel
theorem dX4_sortFromLeast_10 : decode mX4_sortFromLeast.2.1 10 = .ok (.iconst 1, 1) := by decide +kernel
theorem dX4_sortFromLeast_11 : decode mX4_sortFromLeast.2.1 11 = .ok (.iadd, 1) := by decide +kernel
theorem dX4_sortFromLeast_12 : decode mX4_sortFromLeast.2.1 12 = .ok (.istore 4, 2) := by decide +kernel
theorem dX4_sortFromLeast_14 : decode mX4_sortFromLeast.2.1 14 = .ok (.iload 4, 2) := by decide +kernel
theorem dX4_sortFromLeast_16 : decode mX4_sortFromLeast.2.1 16 = .ok (.iload_n 1, 1) := by decide +kernel
theorem dX4_sortFromLeast_17 : decode mX4_sortFromLeast.2.1 17 = .ok (.iload_n 2, 1) := by decide +kernel
theorem dX4_sortFromLeast_18 : decode mX4_sortFromLeast.2.1 18 = .ok (.iadd, 1) := by decide +kernel
theorem dX4_sortFromLeast_19 : decode mX4_sortFromLeast.2.1 19 = .ok (.if_icmp .ge 32, 3) := by decide +kernel
theorem dX4_sortFromLeast_22 : decode mX4_sortFromLeast.2.1 22 = .ok (.aload_n 0, 1) := by decide +kernel
theorem dX4_sortFromLeast_23 : decode mX4_sortFromLeast.2.1 23 = .ok (.getfield 18, 3) := by decide +kernel
theorem dX4_sortFromLeast_26 : decode mX4_sortFromLeast.2.1 26 = .ok (.iload 4, 2) := by decide +kernel
theorem dX4_sortFromLeast_28 : decode mX4_sortFromLeast.2.1 28 = .ok (.iaload, 1) := by decide +kernel
theorem dX4_sortFromLeast_29 : decode mX4_sortFromLeast.2.1 29 = .ok (.aload_n 0, 1) := by decide +kernel
theorem dX4_sortFromLeast_30 : decode mX4_sortFromLeast.2.1 30 = .ok (.getfield 18, 3) := by decide +kernel
theorem dX4_sortFromLeast_33 : decode mX4_sortFromLeast.2.1 33 = .ok (.iload_n 3, 1) := by decide +kernel
theorem dX4_sortFromLeast_34 : decode mX4_sortFromLeast.2.1 34 = .ok (.iaload, 1) := by decide +kernel
theorem dX4_sortFromLeast_35 : decode mX4_sortFromLeast.2.1 35 = .ok (.if_icmp .ge 10, 3) := by decide +kernel
theorem dX4_sortFromLeast_38 : decode mX4_sortFromLeast.2.1 38 = .ok (.aload_n 0, 1) := by decide +kernel
theorem dX4_sortFromLeast_39 : decode mX4_sortFromLeast.2.1 39 = .ok (.iload_n 3, 1) := by decide +kernel
theorem dX4_sortFromLeast_40 : decode mX4_sortFromLeast.2.1 40 = .ok (.iload 4, 2) := by decide +kernel
theorem dX4_sortFromLeast_42 : decode mX4_sortFromLeast.2.1 42 = .ok (.invokevirtual 145, 3) := by decide +kernel
theorem dX4_sortFromLeast_45 : decode mX4_sortFromLeast.2.1 45 = .ok (.iinc 4 1, 3) := by decide +kernel
theorem dX4_sortFromLeast_48 : decode mX4_sortFromLeast.2.1 48 = .ok (.goto (-34), 3) := by decide +kernel
theorem dX4_sortFromLeast_51 : decode mX4_sortFromLeast.2.1 51 = .ok (.iinc 3 1, 3) := by decide +kernel
theorem dX4_sortFromLeast_54 : decode mX4_sortFromLeast.2.1 54 = .ok (.goto (-52), 3) := by decide +kernel
theorem dX4_sortFromLeast_57 : decode mX4_sortFromLeast.2.1 57 = .ok (.return_, 1) := by decide +kernel
theorem bX4_sortFromLeast_0 {E : px_E} {d : Nat} {w : pw_W} {Q : Option Value → pw_W → Prop} {t : ct_T} (hw : w.1 = cs t) {x1 x2 : Int32}  
    (k1 : px_W E mX4_sortFromLeast (d + 1) 0 0 2 [.ref 41, .int x1, .int x2, .int x1, .null] [] w Q) :
    px_W E mX4_sortFromLeast (d + 1) 0 0 0 [.ref 41, .int x1, .int x2, .null, .null] [] w Q := by
  refine px_iload_n dX4_sortFromLeast_0 rfl rfl ?_
  refine px_istore_n (ls' := [.ref 41, .int x1, .int x2, .int x1, .null]) dX4_sortFromLeast_1 rfl ⟨by decide, rfl⟩ rfl ?_
  exact k1
theorem eX4_sortFromLeast {E : px_E} {d : Nat} {w : pw_W} {Q : Option Value → pw_W → Prop} {t : ct_T} (hw : w.1 = cs t) {x1 x2 : Int32}  
    (k1 : px_W E mX4_sortFromLeast (d + 1) 0 0 2 [.ref 41, .int x1, .int x2, .int x1, .null] [] w Q) :
    px_Call E (d + 1) 0 0 mX4_sortFromLeast [.ref 41, .int x1, .int x2] w Q :=
  px_enter (k := 2) (by decide) (Nat.le_of_ble_eq_true rfl) rfl (px_forget (bX4_sortFromLeast_0 hw k1) ⟨Or.inr rfl, Or.inr rfl, Or.inr rfl, Or.inl rfl, Or.inl rfl, trivial⟩)
theorem bX4_sortFromLeast_2 {E : px_E} {d : Nat} {w : pw_W} {Q : Option Value → pw_W → Prop} {t : ct_T} (hw : w.1 = cs t) {x1 x2 x3 : Int32}  
    (k1 : (x1 + x2) ≤ x3 → Q none w)
    (k2 : ¬ (x1 + x2) ≤ x3 → px_W E mX4_sortFromLeast (d + 1) 0 0 14 [.ref 41, .int x1, .int x2, .int x3, .int (x3 + 1)] [] w Q) :
    px_W E mX4_sortFromLeast (d + 1) 0 0 2 [.ref 41, .int x1, .int x2, .int x3, .null] [] w Q := by
  refine px_iload_n dX4_sortFromLeast_2 rfl rfl ?_
  refine px_iload_n dX4_sortFromLeast_3 rfl rfl ?_
  refine px_iload_n dX4_sortFromLeast_4 rfl rfl ?_
  refine px_iadd dX4_sortFromLeast_5 ?_
  refine px_icmp_ge (tgt := 57) dX4_sortFromLeast_6 (by decide) (fun h1 => ?_) (fun h1 => ?_)
  ·
    exact px_return dX4_sortFromLeast_57 rfl (k1 h1)
  ·
    refine px_iload_n dX4_sortFromLeast_9 rfl rfl ?_
    refine px_iconst dX4_sortFromLeast_10 ic_1 ?_
    refine px_iadd dX4_sortFromLeast_11 ?_
    refine px_istore (ls' := [.ref 41, .int x1, .int x2, .int x3, .int (x3 + 1)]) dX4_sortFromLeast_12 ⟨by decide, rfl⟩ rfl ?_
    exact (k2 h1)
theorem bX4_sortFromLeast_14 {E : px_E} {d : Nat} {w : pw_W} {Q : Option Value → pw_W → Prop} {t : ct_T} (hw : w.1 = cs t) {x1 x2 x3 x4 : Int32}  
    (k1 : (x1 + x2) ≤ x4 → px_W E mX4_sortFromLeast (d + 1) 0 0 2 [.ref 41, .int x1, .int x2, .int (x3 + 1), .null] [] w Q)
    (k2 : ¬ (x1 + x2) ≤ x4 → px_W E mX4_sortFromLeast (d + 1) 0 0 22 [.ref 41, .int x1, .int x2, .int x3, .int x4] [] w Q) :
    px_W E mX4_sortFromLeast (d + 1) 0 0 14 [.ref 41, .int x1, .int x2, .int x3, .int x4] [] w Q := by
  refine px_iload dX4_sortFromLeast_14 rfl ?_
  refine px_iload_n dX4_sortFromLeast_16 rfl rfl ?_
  refine px_iload_n dX4_sortFromLeast_17 rfl rfl ?_
  refine px_iadd dX4_sortFromLeast_18 ?_
  refine px_icmp_ge (tgt := 51) dX4_sortFromLeast_19 (by decide) (fun h1 => ?_) (fun h1 => ?_)
  ·
    refine px_iinc (ls' := [.ref 41, .int x1, .int x2, .int (x3 + 1), .int x4]) dX4_sortFromLeast_51 ⟨by decide, rfl⟩ rfl rfl rfl ?_
    refine px_goto (tgt := 2) dX4_sortFromLeast_54 (by decide) ?_
    exact px_forget (k1 h1) ⟨Or.inr rfl, Or.inr rfl, Or.inr rfl, Or.inr rfl, Or.inl rfl, trivial⟩
  ·
    exact (k2 h1)
theorem bX4_sortFromLeast_22 {E : px_E} {d : Nat} {w : pw_W} {Q : Option Value → pw_W → Prop} {t : ct_T} (hw : w.1 = cs t) {x1 x2 x3 x4 : Int32}  (j1 : Nat) (hj1 : x4 = nI j1) (hl1 : j1 < 12) (j2 : Nat) (hj2 : x3 = nI j2) (hl2 : j2 < 12)
    (k1 : (pw_I w 45 j2) ≤ (pw_I w 45 j1) → px_W E mX4_sortFromLeast (d + 1) 0 0 45 [.ref 41, .int x1, .int x2, .int x3, .int x4] [] w Q)
    (k2 : ¬ (pw_I w 45 j2) ≤ (pw_I w 45 j1) → px_Call E d 0 0 mX4_swapTried [.ref 41, .int x3, .int x4] w (fun v w' => px_W E mX4_sortFromLeast (d + 1) 0 0 45 [.ref 41, .int x1, .int x2, .int x3, .int x4] (v.toList ++ []) w' Q)) :
    px_W E mX4_sortFromLeast (d + 1) 0 0 22 [.ref 41, .int x1, .int x2, .int x3, .int x4] [] w Q := by
  refine px_aload_n dX4_sortFromLeast_22 rfl rfl ?_
  refine px_getR (v := 45) dX4_sortFromLeast_23 fr_4_18 rfl (px_sh1 hw sh_41) (px_rf hw rf_41_1) (by decide) ?_
  refine px_iload dX4_sortFromLeast_26 rfl ?_
  refine px_iald dX4_sortFromLeast_28 (px_sh2 hw sh_45) (by decide) j1 hj1 hl1 ?_
  refine px_aload_n dX4_sortFromLeast_29 rfl rfl ?_
  refine px_getR (v := 45) dX4_sortFromLeast_30 fr_4_18 rfl (px_sh1 hw sh_41) (px_rf hw rf_41_1) (by decide) ?_
  refine px_iload_n dX4_sortFromLeast_33 rfl rfl ?_
  refine px_iald dX4_sortFromLeast_34 (px_sh2 hw sh_45) (by decide) j2 hj2 hl2 ?_
  refine px_icmp_ge (tgt := 45) dX4_sortFromLeast_35 (by decide) (fun h1 => ?_) (fun h1 => ?_)
  ·
    exact (k1 h1)
  ·
    refine px_aload_n dX4_sortFromLeast_38 rfl rfl ?_
    refine px_iload_n dX4_sortFromLeast_39 rfl rfl ?_
    refine px_iload dX4_sortFromLeast_40 rfl ?_
    exact px_callV (As := [.int x3, .int x4]) (st := []) (rc := 0) (rs := 0) (mc := 0) (ms := 0) dX4_sortFromLeast_42 lk_4_145 (px_sh1 hw sh_41) rfl rfl (Nat.le_of_ble_eq_true rfl) (k2 h1)
theorem bX4_sortFromLeast_45 {E : px_E} {d : Nat} {w : pw_W} {Q : Option Value → pw_W → Prop} {t : ct_T} (hw : w.1 = cs t) {x1 x2 x3 x4 : Int32}  
    (k1 : px_W E mX4_sortFromLeast (d + 1) 0 0 14 [.ref 41, .int x1, .int x2, .int x3, .int (x4 + 1)] [] w Q) :
    px_W E mX4_sortFromLeast (d + 1) 0 0 45 [.ref 41, .int x1, .int x2, .int x3, .int x4] [] w Q := by
  refine px_iinc (ls' := [.ref 41, .int x1, .int x2, .int x3, .int (x4 + 1)]) dX4_sortFromLeast_45 ⟨by decide, rfl⟩ rfl rfl rfl ?_
  refine px_goto (tgt := 14) dX4_sortFromLeast_48 (by decide) ?_
  exact k1
theorem dX4_turnToNextOrder_0 : decode mX4_turnToNextOrder.2.1 0 = .ok (.iload_n 1, 1) := by decide +kernel
theorem dX4_turnToNextOrder_1 : decode mX4_turnToNextOrder.2.1 1 = .ok (.iload_n 2, 1) := by decide +kernel
theorem dX4_turnToNextOrder_2 : decode mX4_turnToNextOrder.2.1 2 = .ok (.iadd, 1) := by decide +kernel
theorem dX4_turnToNextOrder_3 : decode mX4_turnToNextOrder.2.1 3 = .ok (.iconst 2, 1) := by decide +kernel
theorem dX4_turnToNextOrder_4 : decode mX4_turnToNextOrder.2.1 4 = .ok (.isub, 1) := by decide +kernel
theorem dX4_turnToNextOrder_5 : decode mX4_turnToNextOrder.2.1 5 = .ok (.istore_n 3, 1) := by decide +kernel
theorem dX4_turnToNextOrder_6 : decode mX4_turnToNextOrder.2.1 6 = .ok (.iload_n 3, 1) := by decide +kernel
theorem dX4_turnToNextOrder_7 : decode mX4_turnToNextOrder.2.1 7 = .ok (.iload_n 1, 1) := by decide +kernel
theorem dX4_turnToNextOrder_8 : decode mX4_turnToNextOrder.2.1 8 = .ok (.if_icmp .lt 26, 3) := by decide +kernel
theorem dX4_turnToNextOrder_11 : decode mX4_turnToNextOrder.2.1 11 = .ok (.aload_n 0, 1) := by decide +kernel
theorem dX4_turnToNextOrder_12 : decode mX4_turnToNextOrder.2.1 12 = .ok (.getfield 18, 3) := by decide +kernel
theorem dX4_turnToNextOrder_15 : decode mX4_turnToNextOrder.2.1 15 = .ok (.iload_n 3, 1) := by decide +kernel
theorem dX4_turnToNextOrder_16 : decode mX4_turnToNextOrder.2.1 16 = .ok (.iaload, 1) := by decide +kernel
theorem dX4_turnToNextOrder_17 : decode mX4_turnToNextOrder.2.1 17 = .ok (.aload_n 0, 1) := by decide +kernel
theorem dX4_turnToNextOrder_18 : decode mX4_turnToNextOrder.2.1 18 = .ok (.getfield 18, 3) := by decide +kernel
theorem dX4_turnToNextOrder_21 : decode mX4_turnToNextOrder.2.1 21 = .ok (.iload_n 3, 1) := by decide +kernel
theorem dX4_turnToNextOrder_22 : decode mX4_turnToNextOrder.2.1 22 = .ok (.iconst 1, 1) := by decide +kernel
theorem dX4_turnToNextOrder_23 : decode mX4_turnToNextOrder.2.1 23 = .ok (.iadd, 1) := by decide +kernel
theorem dX4_turnToNextOrder_24 : decode mX4_turnToNextOrder.2.1 24 = .ok (.iaload, 1) := by decide +kernel
theorem dX4_turnToNextOrder_25 : decode mX4_turnToNextOrder.2.1 25 = .ok (.if_icmp .le 9, 3) := by decide +kernel
theorem dX4_turnToNextOrder_28 : decode mX4_turnToNextOrder.2.1 28 = .ok (.iinc 3 (-1), 3) := by decide +kernel
theorem dX4_turnToNextOrder_31 : decode mX4_turnToNextOrder.2.1 31 = .ok (.goto (-25), 3) := by decide +kernel
theorem dX4_turnToNextOrder_34 : decode mX4_turnToNextOrder.2.1 34 = .ok (.iload_n 3, 1) := by decide +kernel
theorem dX4_turnToNextOrder_35 : decode mX4_turnToNextOrder.2.1 35 = .ok (.iload_n 1, 1) := by decide +kernel
theorem dX4_turnToNextOrder_36 : decode mX4_turnToNextOrder.2.1 36 = .ok (.if_icmp .ge 5, 3) := by decide +kernel
theorem dX4_turnToNextOrder_39 : decode mX4_turnToNextOrder.2.1 39 = .ok (.iconst 0, 1) := by decide +kernel
theorem dX4_turnToNextOrder_40 : decode mX4_turnToNextOrder.2.1 40 = .ok (.ireturn, 1) := by decide +kernel
theorem dX4_turnToNextOrder_41 : decode mX4_turnToNextOrder.2.1 41 = .ok (.iload_n 1, 1) := by decide +kernel
theorem dX4_turnToNextOrder_42 : decode mX4_turnToNextOrder.2.1 42 = .ok (.iload_n 2, 1) := by decide +kernel
theorem dX4_turnToNextOrder_43 : decode mX4_turnToNextOrder.2.1 43 = .ok (.iadd, 1) := by decide +kernel
theorem dX4_turnToNextOrder_44 : decode mX4_turnToNextOrder.2.1 44 = .ok (.iconst 1, 1) := by decide +kernel
theorem dX4_turnToNextOrder_45 : decode mX4_turnToNextOrder.2.1 45 = .ok (.isub, 1) := by decide +kernel
theorem dX4_turnToNextOrder_46 : decode mX4_turnToNextOrder.2.1 46 = .ok (.istore 4, 2) := by decide +kernel
theorem dX4_turnToNextOrder_48 : decode mX4_turnToNextOrder.2.1 48 = .ok (.iload 4, 2) := by decide +kernel
theorem dX4_turnToNextOrder_50 : decode mX4_turnToNextOrder.2.1 50 = .ok (.iload_n 3, 1) := by decide +kernel
theorem dX4_turnToNextOrder_51 : decode mX4_turnToNextOrder.2.1 51 = .ok (.if_icmp .le 25, 3) := by decide +kernel
theorem dX4_turnToNextOrder_54 : decode mX4_turnToNextOrder.2.1 54 = .ok (.aload_n 0, 1) := by decide +kernel
theorem dX4_turnToNextOrder_55 : decode mX4_turnToNextOrder.2.1 55 = .ok (.getfield 18, 3) := by decide +kernel
theorem dX4_turnToNextOrder_58 : decode mX4_turnToNextOrder.2.1 58 = .ok (.iload 4, 2) := by decide +kernel
theorem dX4_turnToNextOrder_60 : decode mX4_turnToNextOrder.2.1 60 = .ok (.iaload, 1) := by decide +kernel
theorem dX4_turnToNextOrder_61 : decode mX4_turnToNextOrder.2.1 61 = .ok (.aload_n 0, 1) := by decide +kernel
theorem dX4_turnToNextOrder_62 : decode mX4_turnToNextOrder.2.1 62 = .ok (.getfield 18, 3) := by decide +kernel
theorem dX4_turnToNextOrder_65 : decode mX4_turnToNextOrder.2.1 65 = .ok (.iload_n 3, 1) := by decide +kernel
theorem dX4_turnToNextOrder_66 : decode mX4_turnToNextOrder.2.1 66 = .ok (.iaload, 1) := by decide +kernel
theorem dX4_turnToNextOrder_67 : decode mX4_turnToNextOrder.2.1 67 = .ok (.if_icmp .ge 9, 3) := by decide +kernel
theorem dX4_turnToNextOrder_70 : decode mX4_turnToNextOrder.2.1 70 = .ok (.iinc 4 (-1), 3) := by decide +kernel
theorem dX4_turnToNextOrder_73 : decode mX4_turnToNextOrder.2.1 73 = .ok (.goto (-25), 3) := by decide +kernel
theorem dX4_turnToNextOrder_76 : decode mX4_turnToNextOrder.2.1 76 = .ok (.aload_n 0, 1) := by decide +kernel
theorem dX4_turnToNextOrder_77 : decode mX4_turnToNextOrder.2.1 77 = .ok (.iload_n 3, 1) := by decide +kernel
theorem dX4_turnToNextOrder_78 : decode mX4_turnToNextOrder.2.1 78 = .ok (.iload 4, 2) := by decide +kernel
theorem dX4_turnToNextOrder_80 : decode mX4_turnToNextOrder.2.1 80 = .ok (.invokevirtual 145, 3) := by decide +kernel
theorem dX4_turnToNextOrder_83 : decode mX4_turnToNextOrder.2.1 83 = .ok (.iload_n 3, 1) := by decide +kernel
theorem dX4_turnToNextOrder_84 : decode mX4_turnToNextOrder.2.1 84 = .ok (.iconst 1, 1) := by decide +kernel
theorem dX4_turnToNextOrder_85 : decode mX4_turnToNextOrder.2.1 85 = .ok (.iadd, 1) := by decide +kernel
theorem dX4_turnToNextOrder_86 : decode mX4_turnToNextOrder.2.1 86 = .ok (.istore 5, 2) := by decide +kernel
theorem dX4_turnToNextOrder_88 : decode mX4_turnToNextOrder.2.1 88 = .ok (.iload_n 1, 1) := by decide +kernel
theorem dX4_turnToNextOrder_89 : decode mX4_turnToNextOrder.2.1 89 = .ok (.iload_n 2, 1) := by decide +kernel
theorem dX4_turnToNextOrder_90 : decode mX4_turnToNextOrder.2.1 90 = .ok (.iadd, 1) := by decide +kernel
theorem dX4_turnToNextOrder_91 : decode mX4_turnToNextOrder.2.1 91 = .ok (.iconst 1, 1) := by decide +kernel
theorem dX4_turnToNextOrder_92 : decode mX4_turnToNextOrder.2.1 92 = .ok (.isub, 1) := by decide +kernel
theorem dX4_turnToNextOrder_93 : decode mX4_turnToNextOrder.2.1 93 = .ok (.istore 6, 2) := by decide +kernel
theorem dX4_turnToNextOrder_95 : decode mX4_turnToNextOrder.2.1 95 = .ok (.iload 5, 2) := by decide +kernel
theorem dX4_turnToNextOrder_97 : decode mX4_turnToNextOrder.2.1 97 = .ok (.iload 6, 2) := by decide +kernel
theorem dX4_turnToNextOrder_99 : decode mX4_turnToNextOrder.2.1 99 = .ok (.if_icmp .ge 20, 3) := by decide +kernel
theorem dX4_turnToNextOrder_102 : decode mX4_turnToNextOrder.2.1 102 = .ok (.aload_n 0, 1) := by decide +kernel
theorem dX4_turnToNextOrder_103 : decode mX4_turnToNextOrder.2.1 103 = .ok (.iload 5, 2) := by decide +kernel
theorem dX4_turnToNextOrder_105 : decode mX4_turnToNextOrder.2.1 105 = .ok (.iload 6, 2) := by decide +kernel
theorem dX4_turnToNextOrder_107 : decode mX4_turnToNextOrder.2.1 107 = .ok (.invokevirtual 145, 3) := by decide +kernel
theorem dX4_turnToNextOrder_110 : decode mX4_turnToNextOrder.2.1 110 = .ok (.iinc 5 1, 3) := by decide +kernel
theorem dX4_turnToNextOrder_113 : decode mX4_turnToNextOrder.2.1 113 = .ok (.iinc 6 (-1), 3) := by decide +kernel
theorem dX4_turnToNextOrder_116 : decode mX4_turnToNextOrder.2.1 116 = .ok (.goto (-21), 3) := by decide +kernel
theorem dX4_turnToNextOrder_119 : decode mX4_turnToNextOrder.2.1 119 = .ok (.iconst 1, 1) := by decide +kernel
theorem dX4_turnToNextOrder_120 : decode mX4_turnToNextOrder.2.1 120 = .ok (.ireturn, 1) := by decide +kernel
theorem bX4_turnToNextOrder_0 {E : px_E} {d : Nat} {w : pw_W} {Q : Option Value → pw_W → Prop} {t : ct_T} (hw : w.1 = cs t) {x1 x2 : Int32}  
    (k1 : px_W E mX4_turnToNextOrder (d + 1) 0 0 6 [.ref 41, .int x1, .int x2, .int ((x1 + x2) - 2), .null, .null, .null] [] w Q) :
    px_W E mX4_turnToNextOrder (d + 1) 0 0 0 [.ref 41, .int x1, .int x2, .null, .null, .null, .null] [] w Q := by
  refine px_iload_n dX4_turnToNextOrder_0 rfl rfl ?_
  refine px_iload_n dX4_turnToNextOrder_1 rfl rfl ?_
  refine px_iadd dX4_turnToNextOrder_2 ?_
  refine px_iconst dX4_turnToNextOrder_3 ic_2 ?_
  refine px_isub dX4_turnToNextOrder_4 ?_
  refine px_istore_n (ls' := [.ref 41, .int x1, .int x2, .int ((x1 + x2) - 2), .null, .null, .null]) dX4_turnToNextOrder_5 rfl ⟨by decide, rfl⟩ rfl ?_
  exact k1
theorem eX4_turnToNextOrder {E : px_E} {d : Nat} {w : pw_W} {Q : Option Value → pw_W → Prop} {t : ct_T} (hw : w.1 = cs t) {x1 x2 : Int32}  
    (k1 : px_W E mX4_turnToNextOrder (d + 1) 0 0 6 [.ref 41, .int x1, .int x2, .int ((x1 + x2) - 2), .null, .null, .null] [] w Q) :
    px_Call E (d + 1) 0 0 mX4_turnToNextOrder [.ref 41, .int x1, .int x2] w Q :=
  px_enter (k := 4) (by decide) (Nat.le_of_ble_eq_true rfl) rfl (px_forget (bX4_turnToNextOrder_0 hw k1) ⟨Or.inr rfl, Or.inr rfl, Or.inr rfl, Or.inl rfl, Or.inl rfl, Or.inl rfl, Or.inl rfl, trivial⟩)
theorem bX4_turnToNextOrder_6 {E : px_E} {d : Nat} {w : pw_W} {Q : Option Value → pw_W → Prop} {t : ct_T} (hw : w.1 = cs t) {x1 x2 x3 : Int32}  
    (k1 : x3 < x1 → px_W E mX4_turnToNextOrder (d + 1) 0 0 34 [.ref 41, .int x1, .int x2, .int x3, .null, .null, .null] [] w Q)
    (k2 : ¬ x3 < x1 → px_W E mX4_turnToNextOrder (d + 1) 0 0 11 [.ref 41, .int x1, .int x2, .int x3, .null, .null, .null] [] w Q) :
    px_W E mX4_turnToNextOrder (d + 1) 0 0 6 [.ref 41, .int x1, .int x2, .int x3, .null, .null, .null] [] w Q := by
  refine px_iload_n dX4_turnToNextOrder_6 rfl rfl ?_
  refine px_iload_n dX4_turnToNextOrder_7 rfl rfl ?_
  refine px_icmp_lt (tgt := 34) dX4_turnToNextOrder_8 (by decide) (fun h1 => ?_) (fun h1 => ?_)
  ·
    exact (k1 h1)
  ·
    exact (k2 h1)
theorem bX4_turnToNextOrder_11 {E : px_E} {d : Nat} {w : pw_W} {Q : Option Value → pw_W → Prop} {t : ct_T} (hw : w.1 = cs t) {x1 x2 x3 : Int32}  (j1 : Nat) (hj1 : x3 = nI j1) (hl1 : j1 < 12) (j2 : Nat) (hj2 : (x3 + 1) = nI j2) (hl2 : j2 < 12)
    (k1 : (pw_I w 45 j1) ≤ (pw_I w 45 j2) → px_W E mX4_turnToNextOrder (d + 1) 0 0 34 [.ref 41, .int x1, .int x2, .int x3, .null, .null, .null] [] w Q)
    (k2 : ¬ (pw_I w 45 j1) ≤ (pw_I w 45 j2) → px_W E mX4_turnToNextOrder (d + 1) 0 0 6 [.ref 41, .int x1, .int x2, .int (x3 + (-1)), .null, .null, .null] [] w Q) :
    px_W E mX4_turnToNextOrder (d + 1) 0 0 11 [.ref 41, .int x1, .int x2, .int x3, .null, .null, .null] [] w Q := by
  refine px_aload_n dX4_turnToNextOrder_11 rfl rfl ?_
  refine px_getR (v := 45) dX4_turnToNextOrder_12 fr_4_18 rfl (px_sh1 hw sh_41) (px_rf hw rf_41_1) (by decide) ?_
  refine px_iload_n dX4_turnToNextOrder_15 rfl rfl ?_
  refine px_iald dX4_turnToNextOrder_16 (px_sh2 hw sh_45) (by decide) j1 hj1 hl1 ?_
  refine px_aload_n dX4_turnToNextOrder_17 rfl rfl ?_
  refine px_getR (v := 45) dX4_turnToNextOrder_18 fr_4_18 rfl (px_sh1 hw sh_41) (px_rf hw rf_41_1) (by decide) ?_
  refine px_iload_n dX4_turnToNextOrder_21 rfl rfl ?_
  refine px_iconst dX4_turnToNextOrder_22 ic_1 ?_
  refine px_iadd dX4_turnToNextOrder_23 ?_
  refine px_iald dX4_turnToNextOrder_24 (px_sh2 hw sh_45) (by decide) j2 hj2 hl2 ?_
  refine px_icmp_le (tgt := 34) dX4_turnToNextOrder_25 (by decide) (fun h1 => ?_) (fun h1 => ?_)
  ·
    exact (k1 h1)
  ·
    refine px_iinc (ls' := [.ref 41, .int x1, .int x2, .int (x3 + (-1)), .null, .null, .null]) dX4_turnToNextOrder_28 ⟨by decide, rfl⟩ rfl rfl rfl ?_
    refine px_goto (tgt := 6) dX4_turnToNextOrder_31 (by decide) ?_
    exact (k2 h1)
theorem bX4_turnToNextOrder_34 {E : px_E} {d : Nat} {w : pw_W} {Q : Option Value → pw_W → Prop} {t : ct_T} (hw : w.1 = cs t) {x1 x2 x3 : Int32}  
    (k1 : x1 ≤ x3 → px_W E mX4_turnToNextOrder (d + 1) 0 0 48 [.ref 41, .int x1, .int x2, .int x3, .int ((x1 + x2) - 1), .null, .null] [] w Q)
    (k2 : ¬ x1 ≤ x3 → Q (some (.int 0)) w) :
    px_W E mX4_turnToNextOrder (d + 1) 0 0 34 [.ref 41, .int x1, .int x2, .int x3, .null, .null, .null] [] w Q := by
  refine px_iload_n dX4_turnToNextOrder_34 rfl rfl ?_
  refine px_iload_n dX4_turnToNextOrder_35 rfl rfl ?_
  refine px_icmp_ge (tgt := 41) dX4_turnToNextOrder_36 (by decide) (fun h1 => ?_) (fun h1 => ?_)
  ·
    refine px_iload_n dX4_turnToNextOrder_41 rfl rfl ?_
    refine px_iload_n dX4_turnToNextOrder_42 rfl rfl ?_
    refine px_iadd dX4_turnToNextOrder_43 ?_
    refine px_iconst dX4_turnToNextOrder_44 ic_1 ?_
    refine px_isub dX4_turnToNextOrder_45 ?_
    refine px_istore (ls' := [.ref 41, .int x1, .int x2, .int x3, .int ((x1 + x2) - 1), .null, .null]) dX4_turnToNextOrder_46 ⟨by decide, rfl⟩ rfl ?_
    exact (k1 h1)
  ·
    refine px_iconst dX4_turnToNextOrder_39 ic_0 ?_
    exact px_ireturn dX4_turnToNextOrder_40 rfl (by decide) (k2 h1)
theorem bX4_turnToNextOrder_48 {E : px_E} {d : Nat} {w : pw_W} {Q : Option Value → pw_W → Prop} {t : ct_T} (hw : w.1 = cs t) {x1 x2 x3 x4 : Int32}  
    (k1 : x4 ≤ x3 → px_W E mX4_turnToNextOrder (d + 1) 0 0 76 [.ref 41, .int x1, .int x2, .int x3, .int x4, .null, .null] [] w Q)
    (k2 : ¬ x4 ≤ x3 → px_W E mX4_turnToNextOrder (d + 1) 0 0 54 [.ref 41, .int x1, .int x2, .int x3, .int x4, .null, .null] [] w Q) :
    px_W E mX4_turnToNextOrder (d + 1) 0 0 48 [.ref 41, .int x1, .int x2, .int x3, .int x4, .null, .null] [] w Q := by
  refine px_iload dX4_turnToNextOrder_48 rfl ?_
  refine px_iload_n dX4_turnToNextOrder_50 rfl rfl ?_
  refine px_icmp_le (tgt := 76) dX4_turnToNextOrder_51 (by decide) (fun h1 => ?_) (fun h1 => ?_)
  ·
    exact (k1 h1)
  ·
    exact (k2 h1)
theorem bX4_turnToNextOrder_54 {E : px_E} {d : Nat} {w : pw_W} {Q : Option Value → pw_W → Prop} {t : ct_T} (hw : w.1 = cs t) {x1 x2 x3 x4 : Int32}  (j1 : Nat) (hj1 : x4 = nI j1) (hl1 : j1 < 12) (j2 : Nat) (hj2 : x3 = nI j2) (hl2 : j2 < 12)
    (k1 : (pw_I w 45 j2) ≤ (pw_I w 45 j1) → px_W E mX4_turnToNextOrder (d + 1) 0 0 76 [.ref 41, .int x1, .int x2, .int x3, .int x4, .null, .null] [] w Q)
    (k2 : ¬ (pw_I w 45 j2) ≤ (pw_I w 45 j1) → px_W E mX4_turnToNextOrder (d + 1) 0 0 48 [.ref 41, .int x1, .int x2, .int x3, .int (x4 + (-1)), .null, .null] [] w Q) :
    px_W E mX4_turnToNextOrder (d + 1) 0 0 54 [.ref 41, .int x1, .int x2, .int x3, .int x4, .null, .null] [] w Q := by
  refine px_aload_n dX4_turnToNextOrder_54 rfl rfl ?_
  refine px_getR (v := 45) dX4_turnToNextOrder_55 fr_4_18 rfl (px_sh1 hw sh_41) (px_rf hw rf_41_1) (by decide) ?_
  refine px_iload dX4_turnToNextOrder_58 rfl ?_
  refine px_iald dX4_turnToNextOrder_60 (px_sh2 hw sh_45) (by decide) j1 hj1 hl1 ?_
  refine px_aload_n dX4_turnToNextOrder_61 rfl rfl ?_
  refine px_getR (v := 45) dX4_turnToNextOrder_62 fr_4_18 rfl (px_sh1 hw sh_41) (px_rf hw rf_41_1) (by decide) ?_
  refine px_iload_n dX4_turnToNextOrder_65 rfl rfl ?_
  refine px_iald dX4_turnToNextOrder_66 (px_sh2 hw sh_45) (by decide) j2 hj2 hl2 ?_
  refine px_icmp_ge (tgt := 76) dX4_turnToNextOrder_67 (by decide) (fun h1 => ?_) (fun h1 => ?_)
  ·
    exact (k1 h1)
  ·
    refine px_iinc (ls' := [.ref 41, .int x1, .int x2, .int x3, .int (x4 + (-1)), .null, .null]) dX4_turnToNextOrder_70 ⟨by decide, rfl⟩ rfl rfl rfl ?_
    refine px_goto (tgt := 48) dX4_turnToNextOrder_73 (by decide) ?_
    exact (k2 h1)
theorem bX4_turnToNextOrder_76 {E : px_E} {d : Nat} {w : pw_W} {Q : Option Value → pw_W → Prop} {t : ct_T} (hw : w.1 = cs t) {x1 x2 x3 x4 : Int32}  
    (k1 : px_Call E d 0 0 mX4_swapTried [.ref 41, .int x3, .int x4] w (fun v w' => px_W E mX4_turnToNextOrder (d + 1) 0 0 83 [.ref 41, .int x1, .int x2, .int x3, .null, .null, .null] (v.toList ++ []) w' Q)) :
    px_W E mX4_turnToNextOrder (d + 1) 0 0 76 [.ref 41, .int x1, .int x2, .int x3, .int x4, .null, .null] [] w Q := by
  refine px_aload_n dX4_turnToNextOrder_76 rfl rfl ?_
  refine px_iload_n dX4_turnToNextOrder_77 rfl rfl ?_
  refine px_iload dX4_turnToNextOrder_78 rfl ?_
  refine px_forget (ls' := [.ref 41, .int x1, .int x2, .int x3, .null, .null, .null]) ?_ ⟨Or.inr rfl, Or.inr rfl, Or.inr rfl, Or.inr rfl, Or.inl rfl, Or.inl rfl, Or.inl rfl, trivial⟩
  exact px_callV (As := [.int x3, .int x4]) (st := []) (rc := 0) (rs := 0) (mc := 0) (ms := 0) dX4_turnToNextOrder_80 lk_4_145 (px_sh1 hw sh_41) rfl rfl (Nat.le_of_ble_eq_true rfl) k1
theorem bX4_turnToNextOrder_83 {E : px_E} {d : Nat} {w : pw_W} {Q : Option Value → pw_W → Prop} {t : ct_T} (hw : w.1 = cs t) {x1 x2 x3 : Int32}  
    (k1 : px_W E mX4_turnToNextOrder (d + 1) 0 0 95 [.ref 41, .null, .null, .null, .null, .int (x3 + 1), .int ((x1 + x2) - 1)] [] w Q) :
    px_W E mX4_turnToNextOrder (d + 1) 0 0 83 [.ref 41, .int x1, .int x2, .int x3, .null, .null, .null] [] w Q := by
  refine px_iload_n dX4_turnToNextOrder_83 rfl rfl ?_
  refine px_iconst dX4_turnToNextOrder_84 ic_1 ?_
  refine px_iadd dX4_turnToNextOrder_85 ?_
  refine px_istore (ls' := [.ref 41, .int x1, .int x2, .int x3, .null, .int (x3 + 1), .null]) dX4_turnToNextOrder_86 ⟨by decide, rfl⟩ rfl ?_
  refine px_iload_n dX4_turnToNextOrder_88 rfl rfl ?_
  refine px_iload_n dX4_turnToNextOrder_89 rfl rfl ?_
  refine px_iadd dX4_turnToNextOrder_90 ?_
  refine px_iconst dX4_turnToNextOrder_91 ic_1 ?_
  refine px_isub dX4_turnToNextOrder_92 ?_
  refine px_istore (ls' := [.ref 41, .int x1, .int x2, .int x3, .null, .int (x3 + 1), .int ((x1 + x2) - 1)]) dX4_turnToNextOrder_93 ⟨by decide, rfl⟩ rfl ?_
  exact px_forget k1 ⟨Or.inr rfl, Or.inl rfl, Or.inl rfl, Or.inl rfl, Or.inl rfl, Or.inr rfl, Or.inr rfl, trivial⟩
theorem bX4_turnToNextOrder_95 {E : px_E} {d : Nat} {w : pw_W} {Q : Option Value → pw_W → Prop} {t : ct_T} (hw : w.1 = cs t) {x5 x6 : Int32}  
    (k1 : x6 ≤ x5 → Q (some (.int 1)) w)
    (k2 : ¬ x6 ≤ x5 → px_Call E d 0 0 mX4_swapTried [.ref 41, .int x5, .int x6] w (fun v w' => px_W E mX4_turnToNextOrder (d + 1) 0 0 110 [.ref 41, .null, .null, .null, .null, .int x5, .int x6] (v.toList ++ []) w' Q)) :
    px_W E mX4_turnToNextOrder (d + 1) 0 0 95 [.ref 41, .null, .null, .null, .null, .int x5, .int x6] [] w Q := by
  refine px_iload dX4_turnToNextOrder_95 rfl ?_
  refine px_iload dX4_turnToNextOrder_97 rfl ?_
  refine px_icmp_ge (tgt := 119) dX4_turnToNextOrder_99 (by decide) (fun h1 => ?_) (fun h1 => ?_)
  ·
    refine px_iconst dX4_turnToNextOrder_119 ic_1 ?_
    exact px_ireturn dX4_turnToNextOrder_120 rfl (by decide) (k1 h1)
  ·
    refine px_aload_n dX4_turnToNextOrder_102 rfl rfl ?_
    refine px_iload dX4_turnToNextOrder_103 rfl ?_
    refine px_iload dX4_turnToNextOrder_105 rfl ?_
    exact px_callV (As := [.int x5, .int x6]) (st := []) (rc := 0) (rs := 0) (mc := 0) (ms := 0) dX4_turnToNextOrder_107 lk_4_145 (px_sh1 hw sh_41) rfl rfl (Nat.le_of_ble_eq_true rfl) (k2 h1)
theorem bX4_turnToNextOrder_110 {E : px_E} {d : Nat} {w : pw_W} {Q : Option Value → pw_W → Prop} {t : ct_T} (hw : w.1 = cs t) {x5 x6 : Int32}  
    (k1 : px_W E mX4_turnToNextOrder (d + 1) 0 0 95 [.ref 41, .null, .null, .null, .null, .int (x5 + 1), .int (x6 + (-1))] [] w Q) :
    px_W E mX4_turnToNextOrder (d + 1) 0 0 110 [.ref 41, .null, .null, .null, .null, .int x5, .int x6] [] w Q := by
  refine px_iinc (ls' := [.ref 41, .null, .null, .null, .null, .int (x5 + 1), .int x6]) dX4_turnToNextOrder_110 ⟨by decide, rfl⟩ rfl rfl rfl ?_
  refine px_iinc (ls' := [.ref 41, .null, .null, .null, .null, .int (x5 + 1), .int (x6 + (-1))]) dX4_turnToNextOrder_113 ⟨by decide, rfl⟩ rfl rfl rfl ?_
  refine px_goto (tgt := 95) dX4_turnToNextOrder_116 (by decide) ?_
  exact k1
theorem dX4_swapTried_0 : decode mX4_swapTried.2.1 0 = .ok (.aload_n 0, 1) := by decide +kernel
theorem dX4_swapTried_1 : decode mX4_swapTried.2.1 1 = .ok (.getfield 18, 3) := by decide +kernel
theorem dX4_swapTried_4 : decode mX4_swapTried.2.1 4 = .ok (.iload_n 1, 1) := by decide +kernel
theorem dX4_swapTried_5 : decode mX4_swapTried.2.1 5 = .ok (.iaload, 1) := by decide +kernel
theorem dX4_swapTried_6 : decode mX4_swapTried.2.1 6 = .ok (.istore_n 3, 1) := by decide +kernel
theorem dX4_swapTried_7 : decode mX4_swapTried.2.1 7 = .ok (.aload_n 0, 1) := by decide +kernel
theorem dX4_swapTried_8 : decode mX4_swapTried.2.1 8 = .ok (.getfield 18, 3) := by decide +kernel
theorem dX4_swapTried_11 : decode mX4_swapTried.2.1 11 = .ok (.iload_n 1, 1) := by decide +kernel
theorem dX4_swapTried_12 : decode mX4_swapTried.2.1 12 = .ok (.aload_n 0, 1) := by decide +kernel
theorem dX4_swapTried_13 : decode mX4_swapTried.2.1 13 = .ok (.getfield 18, 3) := by decide +kernel
theorem dX4_swapTried_16 : decode mX4_swapTried.2.1 16 = .ok (.iload_n 2, 1) := by decide +kernel
theorem dX4_swapTried_17 : decode mX4_swapTried.2.1 17 = .ok (.iaload, 1) := by decide +kernel
theorem dX4_swapTried_18 : decode mX4_swapTried.2.1 18 = .ok (.iastore, 1) := by decide +kernel
theorem dX4_swapTried_19 : decode mX4_swapTried.2.1 19 = .ok (.aload_n 0, 1) := by decide +kernel
theorem dX4_swapTried_20 : decode mX4_swapTried.2.1 20 = .ok (.getfield 18, 3) := by decide +kernel
theorem dX4_swapTried_23 : decode mX4_swapTried.2.1 23 = .ok (.iload_n 2, 1) := by decide +kernel
theorem dX4_swapTried_24 : decode mX4_swapTried.2.1 24 = .ok (.iload_n 3, 1) := by decide +kernel
theorem dX4_swapTried_25 : decode mX4_swapTried.2.1 25 = .ok (.iastore, 1) := by decide +kernel
theorem dX4_swapTried_26 : decode mX4_swapTried.2.1 26 = .ok (.return_, 1) := by decide +kernel
theorem bX4_swapTried_0 {E : px_E} {d : Nat} {w : pw_W} {Q : Option Value → pw_W → Prop} {t : ct_T} (hw : w.1 = cs t) {x1 x2 : Int32}  (j1 : Nat) (hj1 : x1 = nI j1) (hl1 : j1 < 12) (j2 : Nat) (hj2 : x2 = nI j2) (hl2 : j2 < 12)
    (k1 : Q none (pw_sI (pw_sI w 45 j1 (pw_I w 45 j2)) 45 j2 (pw_I w 45 j1))) :
    px_W E mX4_swapTried (d + 1) 0 0 0 [.ref 41, .int x1, .int x2, .null] [] w Q := by
  refine px_aload_n dX4_swapTried_0 rfl rfl ?_
  refine px_getR (v := 45) dX4_swapTried_1 fr_4_18 rfl (px_sh1 hw sh_41) (px_rf hw rf_41_1) (by decide) ?_
  refine px_iload_n dX4_swapTried_4 rfl rfl ?_
  refine px_iald dX4_swapTried_5 (px_sh2 hw sh_45) (by decide) j1 hj1 hl1 ?_
  refine px_istore_n (ls' := [.ref 41, .int x1, .int x2, .int (pw_I w 45 j1)]) dX4_swapTried_6 rfl ⟨by decide, rfl⟩ rfl ?_
  refine px_aload_n dX4_swapTried_7 rfl rfl ?_
  refine px_getR (v := 45) dX4_swapTried_8 fr_4_18 rfl (px_sh1 hw sh_41) (px_rf hw rf_41_1) (by decide) ?_
  refine px_iload_n dX4_swapTried_11 rfl rfl ?_
  refine px_aload_n dX4_swapTried_12 rfl rfl ?_
  refine px_getR (v := 45) dX4_swapTried_13 fr_4_18 rfl (px_sh1 hw sh_41) (px_rf hw rf_41_1) (by decide) ?_
  refine px_iload_n dX4_swapTried_16 rfl rfl ?_
  refine px_iald dX4_swapTried_17 (px_sh2 hw sh_45) (by decide) j2 hj2 hl2 ?_
  refine px_iast dX4_swapTried_18 (px_sh2 hw sh_45) (by decide) j1 hj1 hl1 (by omega) ?_
  refine px_aload_n dX4_swapTried_19 rfl rfl ?_
  refine px_getR (v := 45) dX4_swapTried_20 fr_4_18 rfl (px_sh1 (hI hw) sh_41) (px_rf (hI hw) rf_41_1) (by decide) ?_
  refine px_iload_n dX4_swapTried_23 rfl rfl ?_
  refine px_iload_n dX4_swapTried_24 rfl rfl ?_
  refine px_iast dX4_swapTried_25 (px_sh2 (hI hw) sh_45) (by decide) j2 hj2 hl2 (by omega) ?_
  exact px_return dX4_swapTried_26 rfl k1
theorem eX4_swapTried {E : px_E} {d : Nat} {w : pw_W} {Q : Option Value → pw_W → Prop} {t : ct_T} (hw : w.1 = cs t) {x1 x2 : Int32}  (j1 : Nat) (hj1 : x1 = nI j1) (hl1 : j1 < 12) (j2 : Nat) (hj2 : x2 = nI j2) (hl2 : j2 < 12)
    (k1 : Q none (pw_sI (pw_sI w 45 j1 (pw_I w 45 j2)) 45 j2 (pw_I w 45 j1))) :
    px_Call E (d + 1) 0 0 mX4_swapTried [.ref 41, .int x1, .int x2] w Q :=
  px_enter (k := 1) (by decide) (Nat.le_of_ble_eq_true rfl) rfl (px_forget (bX4_swapTried_0 hw j1 hj1 hl1 j2 hj2 hl2 k1) ⟨Or.inr rfl, Or.inr rfl, Or.inr rfl, Or.inl rfl, trivial⟩)
theorem dX7_forget_0 : decode mX7_forget.2.1 0 = .ok (.aload_n 0, 1) := by decide +kernel
theorem dX7_forget_1 : decode mX7_forget.2.1 1 = .ok (.iconst 0, 1) := by decide +kernel
theorem dX7_forget_2 : decode mX7_forget.2.1 2 = .ok (.putfield 45, 3) := by decide +kernel
theorem dX7_forget_5 : decode mX7_forget.2.1 5 = .ok (.aload_n 0, 1) := by decide +kernel
theorem dX7_forget_6 : decode mX7_forget.2.1 6 = .ok (.iconst 0, 1) := by decide +kernel
theorem dX7_forget_7 : decode mX7_forget.2.1 7 = .ok (.putfield 49, 3) := by decide +kernel
theorem dX7_forget_10 : decode mX7_forget.2.1 10 = .ok (.return_, 1) := by decide +kernel
theorem bX7_forget_0 {E : px_E} {d : Nat} {w : pw_W} {Q : Option Value → pw_W → Prop} {t : ct_T} (hw : w.1 = cs t)  
    (k1 : Q none (pw_sI (pw_sI w 48 10 0) 48 7 0)) :
    px_W E mX7_forget (d + 1) 0 0 0 [.ref 48] [] w Q := by
  refine px_aload_n dX7_forget_0 rfl rfl ?_
  refine px_iconst dX7_forget_1 ic_0 ?_
  refine px_putI dX7_forget_2 fl_7_45 (Or.inl rfl) rfl (px_sh1 hw sh_48) rfl rfl (by omega) ?_
  refine px_aload_n dX7_forget_5 rfl rfl ?_
  refine px_iconst dX7_forget_6 ic_0 ?_
  refine px_putI dX7_forget_7 fl_7_49 (Or.inl rfl) rfl (px_sh1 (hI hw) sh_48) (by decide) (by decide) (by omega) ?_
  exact px_return dX7_forget_10 rfl k1
theorem eX7_forget {E : px_E} {d : Nat} {w : pw_W} {Q : Option Value → pw_W → Prop} {t : ct_T} (hw : w.1 = cs t)  
    (k1 : Q none (pw_sI (pw_sI w 48 10 0) 48 7 0)) :
    px_Call E (d + 1) 0 0 mX7_forget [.ref 48] w Q :=
  px_enter (k := 0) (by decide) (Nat.le_of_ble_eq_true rfl) rfl (px_forget (bX7_forget_0 hw k1) ⟨Or.inr rfl, trivial⟩)
theorem dX7_add_0 : decode mX7_add.2.1 0 = .ok (.aload_n 0, 1) := by decide +kernel
theorem dX7_add_1 : decode mX7_add.2.1 1 = .ok (.getfield 45, 3) := by decide +kernel
theorem dX7_add_4 : decode mX7_add.2.1 4 = .ok (.bipush 30, 2) := by decide +kernel
theorem dX7_add_6 : decode mX7_add.2.1 6 = .ok (.if_icmp .lt 5, 3) := by decide +kernel
theorem dX7_add_9 : decode mX7_add.2.1 9 = .ok (.iconst (-1), 1) := by decide +kernel
theorem dX7_add_10 : decode mX7_add.2.1 10 = .ok (.ireturn, 1) := by decide +kernel
theorem dX7_add_11 : decode mX7_add.2.1 11 = .ok (.aload_n 0, 1) := by decide +kernel
theorem dX7_add_12 : decode mX7_add.2.1 12 = .ok (.getfield 11, 3) := by decide +kernel
theorem dX7_add_15 : decode mX7_add.2.1 15 = .ok (.aload_n 0, 1) := by decide +kernel
theorem dX7_add_16 : decode mX7_add.2.1 16 = .ok (.getfield 45, 3) := by decide +kernel
theorem dX7_add_19 : decode mX7_add.2.1 19 = .ok (.iload_n 1, 1) := by decide +kernel
theorem dX7_add_20 : decode mX7_add.2.1 20 = .ok (.iastore, 1) := by decide +kernel
theorem dX7_add_21 : decode mX7_add.2.1 21 = .ok (.aload_n 0, 1) := by decide +kernel
theorem dX7_add_22 : decode mX7_add.2.1 22 = .ok (.getfield 15, 3) := by decide +kernel
theorem dX7_add_25 : decode mX7_add.2.1 25 = .ok (.aload_n 0, 1) := by decide +kernel
theorem dX7_add_26 : decode mX7_add.2.1 26 = .ok (.getfield 45, 3) := by decide +kernel
theorem dX7_add_29 : decode mX7_add.2.1 29 = .ok (.iload_n 2, 1) := by decide +kernel
theorem dX7_add_30 : decode mX7_add.2.1 30 = .ok (.iastore, 1) := by decide +kernel
theorem dX7_add_31 : decode mX7_add.2.1 31 = .ok (.aload_n 0, 1) := by decide +kernel
theorem dX7_add_32 : decode mX7_add.2.1 32 = .ok (.getfield 18, 3) := by decide +kernel
theorem dX7_add_35 : decode mX7_add.2.1 35 = .ok (.aload_n 0, 1) := by decide +kernel
theorem dX7_add_36 : decode mX7_add.2.1 36 = .ok (.getfield 45, 3) := by decide +kernel
theorem dX7_add_39 : decode mX7_add.2.1 39 = .ok (.iload_n 3, 1) := by decide +kernel
theorem dX7_add_40 : decode mX7_add.2.1 40 = .ok (.iastore, 1) := by decide +kernel
theorem dX7_add_41 : decode mX7_add.2.1 41 = .ok (.aload_n 0, 1) := by decide +kernel
theorem dX7_add_42 : decode mX7_add.2.1 42 = .ok (.getfield 21, 3) := by decide +kernel
theorem dX7_add_45 : decode mX7_add.2.1 45 = .ok (.aload_n 0, 1) := by decide +kernel
theorem dX7_add_46 : decode mX7_add.2.1 46 = .ok (.getfield 45, 3) := by decide +kernel
theorem dX7_add_49 : decode mX7_add.2.1 49 = .ok (.iload 4, 2) := by decide +kernel
theorem dX7_add_51 : decode mX7_add.2.1 51 = .ok (.bastore, 1) := by decide +kernel
theorem dX7_add_52 : decode mX7_add.2.1 52 = .ok (.aload_n 0, 1) := by decide +kernel
theorem dX7_add_53 : decode mX7_add.2.1 53 = .ok (.getfield 25, 3) := by decide +kernel
theorem dX7_add_56 : decode mX7_add.2.1 56 = .ok (.aload_n 0, 1) := by decide +kernel
theorem dX7_add_57 : decode mX7_add.2.1 57 = .ok (.getfield 45, 3) := by decide +kernel
theorem dX7_add_60 : decode mX7_add.2.1 60 = .ok (.aload_n 0, 1) := by decide +kernel
theorem dX7_add_61 : decode mX7_add.2.1 61 = .ok (.getfield 53, 3) := by decide +kernel
theorem dX7_add_64 : decode mX7_add.2.1 64 = .ok (.iastore, 1) := by decide +kernel
theorem dX7_add_65 : decode mX7_add.2.1 65 = .ok (.aload_n 0, 1) := by decide +kernel
theorem dX7_add_66 : decode mX7_add.2.1 66 = .ok (.getfield 28, 3) := by decide +kernel
theorem dX7_add_69 : decode mX7_add.2.1 69 = .ok (.aload_n 0, 1) := by decide +kernel
theorem dX7_add_70 : decode mX7_add.2.1 70 = .ok (.getfield 45, 3) := by decide +kernel
theorem dX7_add_73 : decode mX7_add.2.1 73 = .ok (.iconst (-1), 1) := by decide +kernel
theorem dX7_add_74 : decode mX7_add.2.1 74 = .ok (.iastore, 1) := by decide +kernel
theorem dX7_add_75 : decode mX7_add.2.1 75 = .ok (.aload_n 0, 1) := by decide +kernel
theorem dX7_add_76 : decode mX7_add.2.1 76 = .ok (.dup, 1) := by decide +kernel
theorem dX7_add_77 : decode mX7_add.2.1 77 = .ok (.getfield 45, 3) := by decide +kernel
theorem dX7_add_80 : decode mX7_add.2.1 80 = .ok (.iconst 1, 1) := by decide +kernel
theorem dX7_add_81 : decode mX7_add.2.1 81 = .ok (.iadd, 1) := by decide +kernel
theorem dX7_add_82 : decode mX7_add.2.1 82 = .ok (.putfield 45, 3) := by decide +kernel
theorem dX7_add_85 : decode mX7_add.2.1 85 = .ok (.aload_n 0, 1) := by decide +kernel
theorem dX7_add_86 : decode mX7_add.2.1 86 = .ok (.getfield 45, 3) := by decide +kernel
theorem dX7_add_89 : decode mX7_add.2.1 89 = .ok (.iconst 1, 1) := by decide +kernel
theorem dX7_add_90 : decode mX7_add.2.1 90 = .ok (.isub, 1) := by decide +kernel
theorem dX7_add_91 : decode mX7_add.2.1 91 = .ok (.ireturn, 1) := by decide +kernel
theorem bX7_add_0 {E : px_E} {d : Nat} {w : pw_W} {Q : Option Value → pw_W → Prop} {t : ct_T} (hw : w.1 = cs t) {x1 x2 x3 x4 : Int32}  
    (k1 : (pw_I w 48 10) < 30 → px_W E mX7_add (d + 1) 0 0 11 [.ref 48, .int x1, .int x2, .int x3, .int x4] [] w Q)
    (k2 : ¬ (pw_I w 48 10) < 30 → Q (some (.int (-1))) w) :
    px_W E mX7_add (d + 1) 0 0 0 [.ref 48, .int x1, .int x2, .int x3, .int x4] [] w Q := by
  refine px_aload_n dX7_add_0 rfl rfl ?_
  refine px_getI dX7_add_1 fr_7_45 rfl (px_sh1 hw sh_48) ?_
  refine px_bipush dX7_add_4 bp_30 ?_
  refine px_icmp_lt (tgt := 11) dX7_add_6 (by decide) (fun h1 => ?_) (fun h1 => ?_)
  ·
    exact (k1 h1)
  ·
    refine px_iconst dX7_add_9 ic_m1 ?_
    exact px_ireturn dX7_add_10 rfl rfl (k2 h1)
theorem eX7_add {E : px_E} {d : Nat} {w : pw_W} {Q : Option Value → pw_W → Prop} {t : ct_T} (hw : w.1 = cs t) {x1 x2 x3 x4 : Int32}  
    (k1 : (pw_I w 48 10) < 30 → px_W E mX7_add (d + 1) 0 0 11 [.ref 48, .int x1, .int x2, .int x3, .int x4] [] w Q)
    (k2 : ¬ (pw_I w 48 10) < 30 → Q (some (.int (-1))) w) :
    px_Call E (d + 1) 0 0 mX7_add [.ref 48, .int x1, .int x2, .int x3, .int x4] w Q :=
  px_enter (k := 0) (by decide) (Nat.le_of_ble_eq_true rfl) rfl (px_forget (bX7_add_0 hw k1 k2) ⟨Or.inr rfl, Or.inr rfl, Or.inr rfl, Or.inr rfl, Or.inr rfl, trivial⟩)
theorem bX7_add_11 {E : px_E} {d : Nat} {w : pw_W} {Q : Option Value → pw_W → Prop} {t : ct_T} (hw : w.1 = cs t) {x1 x2 x3 x4 : Int32}  (j1 : Nat) (hj1 : (pw_I w 48 10) = nI j1) (hl1 : j1 < 30) (hb2 : x4 = 0 ∨ x4 = 1)
    (k1 : Q (some (.int (((pw_I w 48 10) + 1) - 1))) (pw_sI (pw_sI (pw_sI (pw_sI (pw_sI (pw_sI (pw_sI w 49 j1 x1) 50 j1 x2) 51 j1 x3) 52 j1 x4) 53 j1 (pw_I w 48 11)) 54 j1 (-1)) 48 10 ((pw_I w 48 10) + 1))) :
    px_W E mX7_add (d + 1) 0 0 11 [.ref 48, .int x1, .int x2, .int x3, .int x4] [] w Q := by
  refine px_aload_n dX7_add_11 rfl rfl ?_
  refine px_getR (v := 49) dX7_add_12 fr_7_11 rfl (px_sh1 hw sh_48) (px_rf hw rf_48_0) (by decide) ?_
  refine px_aload_n dX7_add_15 rfl rfl ?_
  refine px_getI dX7_add_16 fr_7_45 rfl (px_sh1 hw sh_48) ?_
  refine px_iload_n dX7_add_19 rfl rfl ?_
  refine px_iast dX7_add_20 (px_sh2 hw sh_49) (by decide) j1 hj1 hl1 (by omega) ?_
  refine px_aload_n dX7_add_21 rfl rfl ?_
  refine px_getR (v := 50) dX7_add_22 fr_7_15 rfl (px_sh1 (hI hw) sh_48) (px_rf (hI hw) rf_48_1) (by decide) ?_
  refine px_aload_n dX7_add_25 rfl rfl ?_
  refine px_getIv (v := (pw_I w 48 10)) dX7_add_26 fr_7_45 rfl (px_sh1 (hI hw) sh_48) rfl ?_
  refine px_iload_n dX7_add_29 rfl rfl ?_
  refine px_iast dX7_add_30 (px_sh2 (hI hw) sh_50) (by decide) j1 hj1 hl1 (by omega) ?_
  refine px_aload_n dX7_add_31 rfl rfl ?_
  refine px_getR (v := 51) dX7_add_32 fr_7_18 rfl (px_sh1 (hI (hI hw)) sh_48) (px_rf (hI (hI hw)) rf_48_2) (by decide) ?_
  refine px_aload_n dX7_add_35 rfl rfl ?_
  refine px_getIv (v := (pw_I w 48 10)) dX7_add_36 fr_7_45 rfl (px_sh1 (hI (hI hw)) sh_48) rfl ?_
  refine px_iload_n dX7_add_39 rfl rfl ?_
  refine px_iast dX7_add_40 (px_sh2 (hI (hI hw)) sh_51) (by decide) j1 hj1 hl1 (by omega) ?_
  refine px_aload_n dX7_add_41 rfl rfl ?_
  refine px_getR (v := 52) dX7_add_42 fr_7_21 rfl (px_sh1 (hI (hI (hI hw))) sh_48) (px_rf (hI (hI (hI hw))) rf_48_3) (by decide) ?_
  refine px_aload_n dX7_add_45 rfl rfl ?_
  refine px_getIv (v := (pw_I w 48 10)) dX7_add_46 fr_7_45 rfl (px_sh1 (hI (hI (hI hw))) sh_48) rfl ?_
  refine px_iload dX7_add_49 rfl ?_
  refine px_zast dX7_add_51 (px_sh2 (hI (hI (hI hw))) sh_52) (by decide) j1 hj1 hl1 (px_zb (hb2)) (by omega) ?_
  refine px_aload_n dX7_add_52 rfl rfl ?_
  refine px_getR (v := 53) dX7_add_53 fr_7_25 rfl (px_sh1 (hI (hI (hI (hI hw)))) sh_48) (px_rf (hI (hI (hI (hI hw)))) rf_48_4) (by decide) ?_
  refine px_aload_n dX7_add_56 rfl rfl ?_
  refine px_getIv (v := (pw_I w 48 10)) dX7_add_57 fr_7_45 rfl (px_sh1 (hI (hI (hI (hI hw)))) sh_48) rfl ?_
  refine px_aload_n dX7_add_60 rfl rfl ?_
  refine px_getIv (v := (pw_I w 48 11)) dX7_add_61 fr_7_53 rfl (px_sh1 (hI (hI (hI (hI hw)))) sh_48) rfl ?_
  refine px_iast dX7_add_64 (px_sh2 (hI (hI (hI (hI hw)))) sh_53) (by decide) j1 hj1 hl1 (by omega) ?_
  refine px_aload_n dX7_add_65 rfl rfl ?_
  refine px_getR (v := 54) dX7_add_66 fr_7_28 rfl (px_sh1 (hI (hI (hI (hI (hI hw))))) sh_48) (px_rf (hI (hI (hI (hI (hI hw))))) rf_48_5) (by decide) ?_
  refine px_aload_n dX7_add_69 rfl rfl ?_
  refine px_getIv (v := (pw_I w 48 10)) dX7_add_70 fr_7_45 rfl (px_sh1 (hI (hI (hI (hI (hI hw))))) sh_48) rfl ?_
  refine px_iconst dX7_add_73 ic_m1 ?_
  refine px_iast dX7_add_74 (px_sh2 (hI (hI (hI (hI (hI hw))))) sh_54) (by decide) j1 hj1 hl1 (by omega) ?_
  refine px_aload_n dX7_add_75 rfl rfl ?_
  refine px_dup dX7_add_76 rfl ?_
  refine px_getIv (v := (pw_I w 48 10)) dX7_add_77 fr_7_45 rfl (px_sh1 (hI (hI (hI (hI (hI (hI hw)))))) sh_48) rfl ?_
  refine px_iconst dX7_add_80 ic_1 ?_
  refine px_iadd dX7_add_81 ?_
  refine px_putI dX7_add_82 fl_7_45 (Or.inl rfl) rfl (px_sh1 (hI (hI (hI (hI (hI (hI hw)))))) sh_48) rfl rfl (by omega) ?_
  refine px_aload_n dX7_add_85 rfl rfl ?_
  refine px_getIv (v := ((pw_I w 48 10) + 1)) dX7_add_86 fr_7_45 rfl (px_sh1 (hI (hI (hI (hI (hI (hI (hI hw))))))) sh_48) rfl ?_
  refine px_iconst dX7_add_89 ic_1 ?_
  refine px_isub dX7_add_90 ?_
  exact px_ireturn dX7_add_91 rfl rfl k1
theorem dX7_withdraw_0 : decode mX7_withdraw.2.1 0 = .ok (.iload_n 1, 1) := by decide +kernel
theorem dX7_withdraw_1 : decode mX7_withdraw.2.1 1 = .ok (.ifCond .lt 21, 3) := by decide +kernel
theorem dX7_withdraw_4 : decode mX7_withdraw.2.1 4 = .ok (.iload_n 1, 1) := by decide +kernel
theorem dX7_withdraw_5 : decode mX7_withdraw.2.1 5 = .ok (.aload_n 0, 1) := by decide +kernel
theorem dX7_withdraw_6 : decode mX7_withdraw.2.1 6 = .ok (.getfield 45, 3) := by decide +kernel
theorem dX7_withdraw_9 : decode mX7_withdraw.2.1 9 = .ok (.if_icmp .ge 13, 3) := by decide +kernel
theorem dX7_withdraw_12 : decode mX7_withdraw.2.1 12 = .ok (.aload_n 0, 1) := by decide +kernel
theorem dX7_withdraw_13 : decode mX7_withdraw.2.1 13 = .ok (.getfield 28, 3) := by decide +kernel
theorem dX7_withdraw_16 : decode mX7_withdraw.2.1 16 = .ok (.iload_n 1, 1) := by decide +kernel
theorem dX7_withdraw_17 : decode mX7_withdraw.2.1 17 = .ok (.iaload, 1) := by decide +kernel
theorem dX7_withdraw_18 : decode mX7_withdraw.2.1 18 = .ok (.iconst (-1), 1) := by decide +kernel
theorem dX7_withdraw_19 : decode mX7_withdraw.2.1 19 = .ok (.if_icmp .eq 5, 3) := by decide +kernel
theorem dX7_withdraw_22 : decode mX7_withdraw.2.1 22 = .ok (.iconst 0, 1) := by decide +kernel
theorem dX7_withdraw_23 : decode mX7_withdraw.2.1 23 = .ok (.ireturn, 1) := by decide +kernel
theorem dX7_withdraw_24 : decode mX7_withdraw.2.1 24 = .ok (.aload_n 0, 1) := by decide +kernel
theorem dX7_withdraw_25 : decode mX7_withdraw.2.1 25 = .ok (.getfield 28, 3) := by decide +kernel
theorem dX7_withdraw_28 : decode mX7_withdraw.2.1 28 = .ok (.iload_n 1, 1) := by decide +kernel
theorem dX7_withdraw_29 : decode mX7_withdraw.2.1 29 = .ok (.aload_n 0, 1) := by decide +kernel
theorem dX7_withdraw_30 : decode mX7_withdraw.2.1 30 = .ok (.getfield 53, 3) := by decide +kernel
theorem dX7_withdraw_33 : decode mX7_withdraw.2.1 33 = .ok (.iastore, 1) := by decide +kernel
theorem dX7_withdraw_34 : decode mX7_withdraw.2.1 34 = .ok (.iconst 1, 1) := by decide +kernel
theorem dX7_withdraw_35 : decode mX7_withdraw.2.1 35 = .ok (.ireturn, 1) := by decide +kernel
theorem bX7_withdraw_0 {E : px_E} {d : Nat} {w : pw_W} {Q : Option Value → pw_W → Prop} {t : ct_T} (hw : w.1 = cs t) {x1 : Int32}  
    (k1 : x1 < 0 → px_W E mX7_withdraw (d + 1) 0 0 22 [.null, .null] [] w Q)
    (k2 : ¬ x1 < 0 → (pw_I w 48 10) ≤ x1 → px_W E mX7_withdraw (d + 1) 0 0 22 [.null, .null] [] w Q)
    (k3 : ¬ x1 < 0 → ¬ (pw_I w 48 10) ≤ x1 → px_W E mX7_withdraw (d + 1) 0 0 12 [.ref 48, .int x1] [] w Q) :
    px_W E mX7_withdraw (d + 1) 0 0 0 [.ref 48, .int x1] [] w Q := by
  refine px_iload_n dX7_withdraw_0 rfl rfl ?_
  refine px_if_lt (tgt := 22) dX7_withdraw_1 (by decide) (fun h1 => ?_) (fun h1 => ?_)
  ·
    exact px_forget (k1 h1) ⟨Or.inl rfl, Or.inl rfl, trivial⟩
  ·
    refine px_iload_n dX7_withdraw_4 rfl rfl ?_
    refine px_aload_n dX7_withdraw_5 rfl rfl ?_
    refine px_getI dX7_withdraw_6 fr_7_45 rfl (px_sh1 hw sh_48) ?_
    refine px_icmp_ge (tgt := 22) dX7_withdraw_9 (by decide) (fun h2 => ?_) (fun h2 => ?_)
    ·
      exact px_forget (k2 h1 h2) ⟨Or.inl rfl, Or.inl rfl, trivial⟩
    ·
      exact (k3 h1 h2)
theorem eX7_withdraw {E : px_E} {d : Nat} {w : pw_W} {Q : Option Value → pw_W → Prop} {t : ct_T} (hw : w.1 = cs t) {x1 : Int32}  
    (k1 : x1 < 0 → px_W E mX7_withdraw (d + 1) 0 0 22 [.null, .null] [] w Q)
    (k2 : ¬ x1 < 0 → (pw_I w 48 10) ≤ x1 → px_W E mX7_withdraw (d + 1) 0 0 22 [.null, .null] [] w Q)
    (k3 : ¬ x1 < 0 → ¬ (pw_I w 48 10) ≤ x1 → px_W E mX7_withdraw (d + 1) 0 0 12 [.ref 48, .int x1] [] w Q) :
    px_Call E (d + 1) 0 0 mX7_withdraw [.ref 48, .int x1] w Q :=
  px_enter (k := 0) (by decide) (Nat.le_of_ble_eq_true rfl) rfl (px_forget (bX7_withdraw_0 hw k1 k2 k3) ⟨Or.inr rfl, Or.inr rfl, trivial⟩)
theorem bX7_withdraw_12 {E : px_E} {d : Nat} {w : pw_W} {Q : Option Value → pw_W → Prop} {t : ct_T} (hw : w.1 = cs t) {x1 : Int32}  (j1 : Nat) (hj1 : x1 = nI j1) (hl1 : j1 < 30)
    (k1 : (pw_I w 54 j1) = (-1) → px_W E mX7_withdraw (d + 1) 0 0 24 [.ref 48, .int x1] [] w Q)
    (k2 : ¬ (pw_I w 54 j1) = (-1) → px_W E mX7_withdraw (d + 1) 0 0 22 [.null, .null] [] w Q) :
    px_W E mX7_withdraw (d + 1) 0 0 12 [.ref 48, .int x1] [] w Q := by
  refine px_aload_n dX7_withdraw_12 rfl rfl ?_
  refine px_getR (v := 54) dX7_withdraw_13 fr_7_28 rfl (px_sh1 hw sh_48) (px_rf hw rf_48_5) (by decide) ?_
  refine px_iload_n dX7_withdraw_16 rfl rfl ?_
  refine px_iald dX7_withdraw_17 (px_sh2 hw sh_54) (by decide) j1 hj1 hl1 ?_
  refine px_iconst dX7_withdraw_18 ic_m1 ?_
  refine px_icmp_eq (tgt := 24) dX7_withdraw_19 (by decide) (fun h1 => ?_) (fun h1 => ?_)
  ·
    exact (k1 h1)
  ·
    exact px_forget (k2 h1) ⟨Or.inl rfl, Or.inl rfl, trivial⟩
theorem bX7_withdraw_22 {E : px_E} {d : Nat} {w : pw_W} {Q : Option Value → pw_W → Prop} {t : ct_T} (hw : w.1 = cs t)  
    (k1 : Q (some (.int 0)) w) :
    px_W E mX7_withdraw (d + 1) 0 0 22 [.null, .null] [] w Q := by
  refine px_iconst dX7_withdraw_22 ic_0 ?_
  exact px_ireturn dX7_withdraw_23 rfl (by decide) k1
theorem bX7_withdraw_24 {E : px_E} {d : Nat} {w : pw_W} {Q : Option Value → pw_W → Prop} {t : ct_T} (hw : w.1 = cs t) {x1 : Int32}  (j1 : Nat) (hj1 : x1 = nI j1) (hl1 : j1 < 30)
    (k1 : Q (some (.int 1)) (pw_sI w 54 j1 (pw_I w 48 11))) :
    px_W E mX7_withdraw (d + 1) 0 0 24 [.ref 48, .int x1] [] w Q := by
  refine px_aload_n dX7_withdraw_24 rfl rfl ?_
  refine px_getR (v := 54) dX7_withdraw_25 fr_7_28 rfl (px_sh1 hw sh_48) (px_rf hw rf_48_5) (by decide) ?_
  refine px_iload_n dX7_withdraw_28 rfl rfl ?_
  refine px_aload_n dX7_withdraw_29 rfl rfl ?_
  refine px_getI dX7_withdraw_30 fr_7_53 rfl (px_sh1 hw sh_48) ?_
  refine px_iast dX7_withdraw_33 (px_sh2 hw sh_54) (by decide) j1 hj1 hl1 (by omega) ?_
  refine px_iconst dX7_withdraw_34 ic_1 ?_
  exact px_ireturn dX7_withdraw_35 rfl (by decide) k1
theorem dX7_passTime_0 : decode mX7_passTime.2.1 0 = .ok (.iload_n 1, 1) := by decide +kernel
theorem dX7_passTime_1 : decode mX7_passTime.2.1 1 = .ok (.ifCond .lt 21, 3) := by decide +kernel
theorem dX7_passTime_4 : decode mX7_passTime.2.1 4 = .ok (.iload_n 1, 1) := by decide +kernel
theorem dX7_passTime_5 : decode mX7_passTime.2.1 5 = .ok (.sipush 1000, 3) := by decide +kernel
theorem dX7_passTime_8 : decode mX7_passTime.2.1 8 = .ok (.if_icmp .gt 14, 3) := by decide +kernel
theorem dX7_passTime_11 : decode mX7_passTime.2.1 11 = .ok (.aload_n 0, 1) := by decide +kernel
theorem dX7_passTime_12 : decode mX7_passTime.2.1 12 = .ok (.getfield 53, 3) := by decide +kernel
theorem dX7_passTime_15 : decode mX7_passTime.2.1 15 = .ok (.iload_n 1, 1) := by decide +kernel
theorem dX7_passTime_16 : decode mX7_passTime.2.1 16 = .ok (.iadd, 1) := by decide +kernel
theorem dX7_passTime_17 : decode mX7_passTime.2.1 17 = .ok (.ldc 56, 2) := by decide +kernel
theorem dX7_passTime_19 : decode mX7_passTime.2.1 19 = .ok (.if_icmp .le 5, 3) := by decide +kernel
theorem dX7_passTime_22 : decode mX7_passTime.2.1 22 = .ok (.iconst (-1), 1) := by decide +kernel
theorem dX7_passTime_23 : decode mX7_passTime.2.1 23 = .ok (.ireturn, 1) := by decide +kernel
theorem dX7_passTime_24 : decode mX7_passTime.2.1 24 = .ok (.aload_n 0, 1) := by decide +kernel
theorem dX7_passTime_25 : decode mX7_passTime.2.1 25 = .ok (.dup, 1) := by decide +kernel
theorem dX7_passTime_26 : decode mX7_passTime.2.1 26 = .ok (.getfield 53, 3) := by decide +kernel
theorem dX7_passTime_29 : decode mX7_passTime.2.1 29 = .ok (.iload_n 1, 1) := by decide +kernel
theorem dX7_passTime_30 : decode mX7_passTime.2.1 30 = .ok (.iadd, 1) := by decide +kernel
theorem dX7_passTime_31 : decode mX7_passTime.2.1 31 = .ok (.putfield 53, 3) := by decide +kernel
theorem dX7_passTime_34 : decode mX7_passTime.2.1 34 = .ok (.aload_n 0, 1) := by decide +kernel
theorem dX7_passTime_35 : decode mX7_passTime.2.1 35 = .ok (.getfield 53, 3) := by decide +kernel
theorem dX7_passTime_38 : decode mX7_passTime.2.1 38 = .ok (.ireturn, 1) := by decide +kernel
theorem bX7_passTime_0 {E : px_E} {d : Nat} {w : pw_W} {Q : Option Value → pw_W → Prop} {t : ct_T} (hw : w.1 = cs t) {x1 : Int32}  
    (k1 : x1 < 0 → px_W E mX7_passTime (d + 1) 0 0 22 [.null, .null] [] w Q)
    (k2 : ¬ x1 < 0 → 1000 < x1 → px_W E mX7_passTime (d + 1) 0 0 22 [.null, .null] [] w Q)
    (k3 : ¬ x1 < 0 → ¬ 1000 < x1 → ((pw_I w 48 11) + x1) ≤ 100000 → Q (some (.int ((pw_I w 48 11) + x1))) (pw_sI w 48 11 ((pw_I w 48 11) + x1)))
    (k4 : ¬ x1 < 0 → ¬ 1000 < x1 → ¬ ((pw_I w 48 11) + x1) ≤ 100000 → px_W E mX7_passTime (d + 1) 0 0 22 [.null, .null] [] w Q) :
    px_W E mX7_passTime (d + 1) 0 0 0 [.ref 48, .int x1] [] w Q := by
  refine px_iload_n dX7_passTime_0 rfl rfl ?_
  refine px_if_lt (tgt := 22) dX7_passTime_1 (by decide) (fun h1 => ?_) (fun h1 => ?_)
  ·
    exact px_forget (k1 h1) ⟨Or.inl rfl, Or.inl rfl, trivial⟩
  ·
    refine px_iload_n dX7_passTime_4 rfl rfl ?_
    refine px_sipush dX7_passTime_5 sp_1000 ?_
    refine px_icmp_gt (tgt := 22) dX7_passTime_8 (by decide) (fun h2 => ?_) (fun h2 => ?_)
    ·
      exact px_forget (k2 h1 h2) ⟨Or.inl rfl, Or.inl rfl, trivial⟩
    ·
      refine px_aload_n dX7_passTime_11 rfl rfl ?_
      refine px_getI dX7_passTime_12 fr_7_53 rfl (px_sh1 hw sh_48) ?_
      refine px_iload_n dX7_passTime_15 rfl rfl ?_
      refine px_iadd dX7_passTime_16 ?_
      refine px_ldc dX7_passTime_17 (px_in5 141 rfl rfl) ?_
      refine px_icmp_le (tgt := 24) dX7_passTime_19 (by decide) (fun h3 => ?_) (fun h3 => ?_)
      ·
        refine px_aload_n dX7_passTime_24 rfl rfl ?_
        refine px_dup dX7_passTime_25 rfl ?_
        refine px_getI dX7_passTime_26 fr_7_53 rfl (px_sh1 hw sh_48) ?_
        refine px_iload_n dX7_passTime_29 rfl rfl ?_
        refine px_iadd dX7_passTime_30 ?_
        refine px_putI dX7_passTime_31 fl_7_53 (Or.inl rfl) rfl (px_sh1 hw sh_48) rfl rfl (by omega) ?_
        refine px_aload_n dX7_passTime_34 rfl rfl ?_
        refine px_getIv (v := ((pw_I w 48 11) + x1)) dX7_passTime_35 fr_7_53 rfl (px_sh1 (hI hw) sh_48) rfl ?_
        exact px_ireturn dX7_passTime_38 rfl rfl (k3 h1 h2 h3)
      ·
        exact px_forget (k4 h1 h2 h3) ⟨Or.inl rfl, Or.inl rfl, trivial⟩
theorem eX7_passTime {E : px_E} {d : Nat} {w : pw_W} {Q : Option Value → pw_W → Prop} {t : ct_T} (hw : w.1 = cs t) {x1 : Int32}  
    (k1 : x1 < 0 → px_W E mX7_passTime (d + 1) 0 0 22 [.null, .null] [] w Q)
    (k2 : ¬ x1 < 0 → 1000 < x1 → px_W E mX7_passTime (d + 1) 0 0 22 [.null, .null] [] w Q)
    (k3 : ¬ x1 < 0 → ¬ 1000 < x1 → ((pw_I w 48 11) + x1) ≤ 100000 → Q (some (.int ((pw_I w 48 11) + x1))) (pw_sI w 48 11 ((pw_I w 48 11) + x1)))
    (k4 : ¬ x1 < 0 → ¬ 1000 < x1 → ¬ ((pw_I w 48 11) + x1) ≤ 100000 → px_W E mX7_passTime (d + 1) 0 0 22 [.null, .null] [] w Q) :
    px_Call E (d + 1) 0 0 mX7_passTime [.ref 48, .int x1] w Q :=
  px_enter (k := 0) (by decide) (Nat.le_of_ble_eq_true rfl) rfl (px_forget (bX7_passTime_0 hw k1 k2 k3 k4) ⟨Or.inr rfl, Or.inr rfl, trivial⟩)
theorem bX7_passTime_22 {E : px_E} {d : Nat} {w : pw_W} {Q : Option Value → pw_W → Prop} {t : ct_T} (hw : w.1 = cs t)  
    (k1 : Q (some (.int (-1))) w) :
    px_W E mX7_passTime (d + 1) 0 0 22 [.null, .null] [] w Q := by
  refine px_iconst dX7_passTime_22 ic_m1 ?_
  exact px_ireturn dX7_passTime_23 rfl rfl k1
theorem dX7_fitting_0 : decode mX7_fitting.2.1 0 = .ok (.aload_n 1, 1) := by decide +kernel
theorem dX7_fitting_1 : decode mX7_fitting.2.1 1 = .ok (.getfield 57, 3) := by decide +kernel
theorem dX7_fitting_4 : decode mX7_fitting.2.1 4 = .ok (.ifCond .ne 5, 3) := by decide +kernel
theorem dX7_fitting_7 : decode mX7_fitting.2.1 7 = .ok (.iconst 0, 1) := by decide +kernel
theorem dX7_fitting_8 : decode mX7_fitting.2.1 8 = .ok (.ireturn, 1) := by decide +kernel
theorem dX7_fitting_9 : decode mX7_fitting.2.1 9 = .ok (.aload_n 0, 1) := by decide +kernel
theorem dX7_fitting_10 : decode mX7_fitting.2.1 10 = .ok (.aload_n 1, 1) := by decide +kernel
theorem dX7_fitting_11 : decode mX7_fitting.2.1 11 = .ok (.invokevirtual 62, 3) := by decide +kernel
theorem dX7_fitting_14 : decode mX7_fitting.2.1 14 = .ok (.iconst 0, 1) := by decide +kernel
theorem dX7_fitting_15 : decode mX7_fitting.2.1 15 = .ok (.istore_n 3, 1) := by decide +kernel
theorem dX7_fitting_16 : decode mX7_fitting.2.1 16 = .ok (.iconst 0, 1) := by decide +kernel
theorem dX7_fitting_17 : decode mX7_fitting.2.1 17 = .ok (.istore 4, 2) := by decide +kernel
theorem dX7_fitting_19 : decode mX7_fitting.2.1 19 = .ok (.iload 4, 2) := by decide +kernel
theorem dX7_fitting_21 : decode mX7_fitting.2.1 21 = .ok (.bipush 30, 2) := by decide +kernel
theorem dX7_fitting_23 : decode mX7_fitting.2.1 23 = .ok (.if_icmp .gt 26, 3) := by decide +kernel
theorem dX7_fitting_26 : decode mX7_fitting.2.1 26 = .ok (.aload_n 0, 1) := by decide +kernel
theorem dX7_fitting_27 : decode mX7_fitting.2.1 27 = .ok (.iload 4, 2) := by decide +kernel
theorem dX7_fitting_29 : decode mX7_fitting.2.1 29 = .ok (.iload_n 2, 1) := by decide +kernel
theorem dX7_fitting_30 : decode mX7_fitting.2.1 30 = .ok (.invokevirtual 66, 3) := by decide +kernel
theorem dX7_fitting_33 : decode mX7_fitting.2.1 33 = .ok (.ifCond .eq 10, 3) := by decide +kernel
theorem dX7_fitting_36 : decode mX7_fitting.2.1 36 = .ok (.iload_n 3, 1) := by decide +kernel
theorem dX7_fitting_37 : decode mX7_fitting.2.1 37 = .ok (.iconst 1, 1) := by decide +kernel
theorem dX7_fitting_38 : decode mX7_fitting.2.1 38 = .ok (.iload 4, 2) := by decide +kernel
theorem dX7_fitting_40 : decode mX7_fitting.2.1 40 = .ok (.ishl, 1) := by decide +kernel
theorem dX7_fitting_41 : decode mX7_fitting.2.1 41 = .ok (.ior, 1) := by decide +kernel
theorem dX7_fitting_42 : decode mX7_fitting.2.1 42 = .ok (.istore_n 3, 1) := by decide +kernel
theorem dX7_fitting_43 : decode mX7_fitting.2.1 43 = .ok (.iinc 4 1, 3) := by decide +kernel
theorem dX7_fitting_46 : decode mX7_fitting.2.1 46 = .ok (.goto (-27), 3) := by decide +kernel
theorem dX7_fitting_49 : decode mX7_fitting.2.1 49 = .ok (.iload_n 3, 1) := by decide +kernel
theorem dX7_fitting_50 : decode mX7_fitting.2.1 50 = .ok (.ireturn, 1) := by decide +kernel
theorem bX7_fitting_0 {E : px_E} {d : Nat} {w : pw_W} {Q : Option Value → pw_W → Prop} {t : ct_T} (hw : w.1 = cs t) {x2 : Int32} {r1 : Nat} (hr1 : is_Hamlet r1) 
    (k1 : ¬ (pw_I w r1 0) = 0 → px_Call E d 0 0 mX7_fillChart [.ref 48, .ref r1] w (fun v w' => px_W E mX7_fitting (d + 1) 0 0 14 [.ref 48, .null, .int x2, .null, .null] (v.toList ++ []) w' Q))
    (k2 : (pw_I w r1 0) = 0 → Q (some (.int 0)) w) :
    px_W E mX7_fitting (d + 1) 0 0 0 [.ref 48, .ref r1, .int x2, .null, .null] [] w Q := by
  refine px_aload_n dX7_fitting_0 rfl rfl ?_
  refine px_getI dX7_fitting_1 fr_7_57 rfl (px_sh1 hw hr1.sh) ?_
  refine px_if_ne (tgt := 9) dX7_fitting_4 (by decide) (fun h1 => ?_) (fun h1 => ?_)
  ·
    refine px_aload_n dX7_fitting_9 rfl rfl ?_
    refine px_aload_n dX7_fitting_10 rfl rfl ?_
    refine px_forget (ls' := [.ref 48, .null, .int x2, .null, .null]) ?_ ⟨Or.inr rfl, Or.inl rfl, Or.inr rfl, Or.inl rfl, Or.inl rfl, trivial⟩
    exact px_callV (As := [.ref r1]) (st := []) (rc := 0) (rs := 0) (mc := 0) (ms := 0) dX7_fitting_11 lk_7_62 (px_sh1 hw sh_48) rfl rfl (Nat.le_of_ble_eq_true rfl) (k1 h1)
  ·
    refine px_iconst dX7_fitting_7 ic_0 ?_
    exact px_ireturn dX7_fitting_8 rfl rfl (k2 h1)
theorem eX7_fitting {E : px_E} {d : Nat} {w : pw_W} {Q : Option Value → pw_W → Prop} {t : ct_T} (hw : w.1 = cs t) {x2 : Int32} {r1 : Nat} (hr1 : is_Hamlet r1) 
    (k1 : ¬ (pw_I w r1 0) = 0 → px_Call E d 0 0 mX7_fillChart [.ref 48, .ref r1] w (fun v w' => px_W E mX7_fitting (d + 1) 0 0 14 [.ref 48, .null, .int x2, .null, .null] (v.toList ++ []) w' Q))
    (k2 : (pw_I w r1 0) = 0 → Q (some (.int 0)) w) :
    px_Call E (d + 1) 0 0 mX7_fitting [.ref 48, .ref r1, .int x2] w Q :=
  px_enter (k := 2) (by decide) (Nat.le_of_ble_eq_true rfl) rfl (px_forget (bX7_fitting_0 hw hr1 k1 k2) ⟨Or.inr rfl, Or.inr rfl, Or.inr rfl, Or.inl rfl, Or.inl rfl, trivial⟩)
theorem bX7_fitting_14 {E : px_E} {d : Nat} {w : pw_W} {Q : Option Value → pw_W → Prop} {t : ct_T} (hw : w.1 = cs t) {x2 : Int32} {r1 : Nat} (hr1 : is_Hamlet r1) 
    (k1 : px_W E mX7_fitting (d + 1) 0 0 19 [.ref 48, .null, .int x2, .int 0, .int 0] [] w Q) :
    px_W E mX7_fitting (d + 1) 0 0 14 [.ref 48, .null, .int x2, .null, .null] [] w Q := by
  refine px_iconst dX7_fitting_14 ic_0 ?_
  refine px_istore_n (ls' := [.ref 48, .null, .int x2, .int 0, .null]) dX7_fitting_15 rfl ⟨by decide, rfl⟩ rfl ?_
  refine px_iconst dX7_fitting_16 ic_0 ?_
  refine px_istore (ls' := [.ref 48, .null, .int x2, .int 0, .int 0]) dX7_fitting_17 ⟨by decide, rfl⟩ rfl ?_
  exact k1
theorem bX7_fitting_19 {E : px_E} {d : Nat} {w : pw_W} {Q : Option Value → pw_W → Prop} {t : ct_T} (hw : w.1 = cs t) {x2 x3 x4 : Int32} {r1 : Nat} (hr1 : is_Hamlet r1) 
    (k1 : 30 < x4 → Q (some (.int x3)) w)
    (k2 : ¬ 30 < x4 → px_Call E d 0 0 mX7_agrees [.ref 48, .int x4, .int x2] w (fun v w' => px_W E mX7_fitting (d + 1) 0 0 33 [.ref 48, .null, .int x2, .int x3, .int x4] (v.toList ++ []) w' Q)) :
    px_W E mX7_fitting (d + 1) 0 0 19 [.ref 48, .null, .int x2, .int x3, .int x4] [] w Q := by
  refine px_iload dX7_fitting_19 rfl ?_
  refine px_bipush dX7_fitting_21 bp_30 ?_
  refine px_icmp_gt (tgt := 49) dX7_fitting_23 (by decide) (fun h1 => ?_) (fun h1 => ?_)
  ·
    refine px_iload_n dX7_fitting_49 rfl rfl ?_
    exact px_ireturn dX7_fitting_50 rfl rfl (k1 h1)
  ·
    refine px_aload_n dX7_fitting_26 rfl rfl ?_
    refine px_iload dX7_fitting_27 rfl ?_
    refine px_iload_n dX7_fitting_29 rfl rfl ?_
    exact px_callV (As := [.int x4, .int x2]) (st := []) (rc := 0) (rs := 0) (mc := 0) (ms := 0) dX7_fitting_30 lk_7_66 (px_sh1 hw sh_48) rfl rfl (Nat.le_of_ble_eq_true rfl) (k2 h1)
theorem bX7_fitting_33 {E : px_E} {d : Nat} {w : pw_W} {Q : Option Value → pw_W → Prop} {t : ct_T} (hw : w.1 = cs t) {x2 x3 x4 y0 : Int32} {r1 : Nat} (hr1 : is_Hamlet r1) 
    (k1 : y0 = 0 → px_W E mX7_fitting (d + 1) 0 0 43 [.ref 48, .null, .int x2, .int x3, .int x4] [] w Q)
    (k2 : ¬ y0 = 0 → px_W E mX7_fitting (d + 1) 0 0 43 [.ref 48, .null, .int x2, .int (x3 ||| (js_shl 1 x4)), .int x4] [] w Q) :
    px_W E mX7_fitting (d + 1) 0 0 33 [.ref 48, .null, .int x2, .int x3, .int x4] [.int y0] w Q := by
  refine px_if_eq (tgt := 43) dX7_fitting_33 (by decide) (fun h1 => ?_) (fun h1 => ?_)
  ·
    exact (k1 h1)
  ·
    refine px_iload_n dX7_fitting_36 rfl rfl ?_
    refine px_iconst dX7_fitting_37 ic_1 ?_
    refine px_iload dX7_fitting_38 rfl ?_
    refine px_ishl dX7_fitting_40 ?_
    refine px_ior dX7_fitting_41 ?_
    refine px_istore_n (ls' := [.ref 48, .null, .int x2, .int (x3 ||| (js_shl 1 x4)), .int x4]) dX7_fitting_42 rfl ⟨by decide, rfl⟩ rfl ?_
    exact (k2 h1)
theorem bX7_fitting_43 {E : px_E} {d : Nat} {w : pw_W} {Q : Option Value → pw_W → Prop} {t : ct_T} (hw : w.1 = cs t) {x2 x3 x4 : Int32} {r1 : Nat} (hr1 : is_Hamlet r1) 
    (k1 : px_W E mX7_fitting (d + 1) 0 0 19 [.ref 48, .null, .int x2, .int x3, .int (x4 + 1)] [] w Q) :
    px_W E mX7_fitting (d + 1) 0 0 43 [.ref 48, .null, .int x2, .int x3, .int x4] [] w Q := by
  refine px_iinc (ls' := [.ref 48, .null, .int x2, .int x3, .int (x4 + 1)]) dX7_fitting_43 ⟨by decide, rfl⟩ rfl rfl rfl ?_
  refine px_goto (tgt := 19) dX7_fitting_46 (by decide) ?_
  exact k1
theorem dX7_mostLeft_0 : decode mX7_mostLeft.2.1 0 = .ok (.aload_n 0, 1) := by decide +kernel
theorem dX7_mostLeft_1 : decode mX7_mostLeft.2.1 1 = .ok (.getfield 35, 3) := by decide +kernel
theorem dX7_mostLeft_4 : decode mX7_mostLeft.2.1 4 = .ok (.iconst 0, 1) := by decide +kernel
theorem dX7_mostLeft_5 : decode mX7_mostLeft.2.1 5 = .ok (.invokestatic 70, 3) := by decide +kernel
theorem dX7_mostLeft_8 : decode mX7_mostLeft.2.1 8 = .ok (.iconst 0, 1) := by decide +kernel
theorem dX7_mostLeft_9 : decode mX7_mostLeft.2.1 9 = .ok (.istore 4, 2) := by decide +kernel
theorem dX7_mostLeft_11 : decode mX7_mostLeft.2.1 11 = .ok (.iconst 0, 1) := by decide +kernel
theorem dX7_mostLeft_12 : decode mX7_mostLeft.2.1 12 = .ok (.istore 5, 2) := by decide +kernel
theorem dX7_mostLeft_14 : decode mX7_mostLeft.2.1 14 = .ok (.iload 5, 2) := by decide +kernel
theorem dX7_mostLeft_16 : decode mX7_mostLeft.2.1 16 = .ok (.bipush 30, 2) := by decide +kernel
theorem dX7_mostLeft_18 : decode mX7_mostLeft.2.1 18 = .ok (.if_icmp .gt 58, 3) := by decide +kernel
theorem dX7_mostLeft_21 : decode mX7_mostLeft.2.1 21 = .ok (.iload_n 1, 1) := by decide +kernel
theorem dX7_mostLeft_22 : decode mX7_mostLeft.2.1 22 = .ok (.iload 5, 2) := by decide +kernel
theorem dX7_mostLeft_24 : decode mX7_mostLeft.2.1 24 = .ok (.ishr, 1) := by decide +kernel
theorem dX7_mostLeft_25 : decode mX7_mostLeft.2.1 25 = .ok (.iconst 1, 1) := by decide +kernel
theorem dX7_mostLeft_26 : decode mX7_mostLeft.2.1 26 = .ok (.iand, 1) := by decide +kernel
theorem dX7_mostLeft_27 : decode mX7_mostLeft.2.1 27 = .ok (.iconst 1, 1) := by decide +kernel
theorem dX7_mostLeft_28 : decode mX7_mostLeft.2.1 28 = .ok (.if_icmp .ne 42, 3) := by decide +kernel
theorem dX7_mostLeft_31 : decode mX7_mostLeft.2.1 31 = .ok (.aload_n 0, 1) := by decide +kernel
theorem dX7_mostLeft_32 : decode mX7_mostLeft.2.1 32 = .ok (.getfield 31, 3) := by decide +kernel
theorem dX7_mostLeft_35 : decode mX7_mostLeft.2.1 35 = .ok (.iload 5, 2) := by decide +kernel
theorem dX7_mostLeft_37 : decode mX7_mostLeft.2.1 37 = .ok (.iload_n 2, 1) := by decide +kernel
theorem dX7_mostLeft_38 : decode mX7_mostLeft.2.1 38 = .ok (.iload_n 3, 1) := by decide +kernel
theorem dX7_mostLeft_39 : decode mX7_mostLeft.2.1 39 = .ok (.invokestatic 76, 3) := by decide +kernel
theorem dX7_mostLeft_42 : decode mX7_mostLeft.2.1 42 = .ok (.baload, 1) := by decide +kernel
theorem dX7_mostLeft_43 : decode mX7_mostLeft.2.1 43 = .ok (.istore 6, 2) := by decide +kernel
theorem dX7_mostLeft_45 : decode mX7_mostLeft.2.1 45 = .ok (.aload_n 0, 1) := by decide +kernel
theorem dX7_mostLeft_46 : decode mX7_mostLeft.2.1 46 = .ok (.getfield 35, 3) := by decide +kernel
theorem dX7_mostLeft_49 : decode mX7_mostLeft.2.1 49 = .ok (.iload 6, 2) := by decide +kernel
theorem dX7_mostLeft_51 : decode mX7_mostLeft.2.1 51 = .ok (.dup2, 1) := by decide +kernel
theorem dX7_mostLeft_52 : decode mX7_mostLeft.2.1 52 = .ok (.iaload, 1) := by decide +kernel
theorem dX7_mostLeft_53 : decode mX7_mostLeft.2.1 53 = .ok (.iconst 1, 1) := by decide +kernel
theorem dX7_mostLeft_54 : decode mX7_mostLeft.2.1 54 = .ok (.iadd, 1) := by decide +kernel
theorem dX7_mostLeft_55 : decode mX7_mostLeft.2.1 55 = .ok (.iastore, 1) := by decide +kernel
theorem dX7_mostLeft_56 : decode mX7_mostLeft.2.1 56 = .ok (.iload 4, 2) := by decide +kernel
theorem dX7_mostLeft_58 : decode mX7_mostLeft.2.1 58 = .ok (.aload_n 0, 1) := by decide +kernel
theorem dX7_mostLeft_59 : decode mX7_mostLeft.2.1 59 = .ok (.getfield 35, 3) := by decide +kernel
theorem dX7_mostLeft_62 : decode mX7_mostLeft.2.1 62 = .ok (.iload 6, 2) := by decide +kernel
theorem dX7_mostLeft_64 : decode mX7_mostLeft.2.1 64 = .ok (.iaload, 1) := by decide +kernel
theorem dX7_mostLeft_65 : decode mX7_mostLeft.2.1 65 = .ok (.invokestatic 80, 3) := by decide +kernel
theorem dX7_mostLeft_68 : decode mX7_mostLeft.2.1 68 = .ok (.istore 4, 2) := by decide +kernel
theorem dX7_mostLeft_70 : decode mX7_mostLeft.2.1 70 = .ok (.iinc 5 1, 3) := by decide +kernel
theorem dX7_mostLeft_73 : decode mX7_mostLeft.2.1 73 = .ok (.goto (-59), 3) := by decide +kernel
theorem dX7_mostLeft_76 : decode mX7_mostLeft.2.1 76 = .ok (.iload 4, 2) := by decide +kernel
theorem dX7_mostLeft_78 : decode mX7_mostLeft.2.1 78 = .ok (.ireturn, 1) := by decide +kernel
theorem bX7_mostLeft_0 {E : px_E} {d : Nat} {w : pw_W} {Q : Option Value → pw_W → Prop} {t : ct_T} (hw : w.1 = cs t) {x1 x2 x3 : Int32}  
    (k1 : px_Call E (d + 1) 0 0 mJ7_fill_53178 [.ref 56, .int 0] w (fun v w' => px_W E mX7_mostLeft (d + 2) 0 0 8 [.ref 48, .int x1, .int x2, .int x3, .null, .null, .null] (v.toList ++ []) w' Q)) :
    px_W E mX7_mostLeft (d + 2) 0 0 0 [.ref 48, .int x1, .int x2, .int x3, .null, .null, .null] [] w Q := by
  refine px_aload_n dX7_mostLeft_0 rfl rfl ?_
  refine px_getR (v := 56) dX7_mostLeft_1 fr_7_35 rfl (px_sh1 hw sh_48) (px_rf hw rf_48_8) (by decide) ?_
  refine px_iconst dX7_mostLeft_4 ic_0 ?_
  exact px_callS (As := [.ref 56, .int 0]) (st := []) (rc := 0) (rs := 0) (mc := 0) (ms := 0) dX7_mostLeft_5 lk_7_70 rfl rfl (Nat.le_of_ble_eq_true rfl) k1
theorem eX7_mostLeft {E : px_E} {d : Nat} {w : pw_W} {Q : Option Value → pw_W → Prop} {t : ct_T} (hw : w.1 = cs t) {x1 x2 x3 : Int32}  
    (k1 : px_Call E (d + 1) 0 0 mJ7_fill_53178 [.ref 56, .int 0] w (fun v w' => px_W E mX7_mostLeft (d + 2) 0 0 8 [.ref 48, .int x1, .int x2, .int x3, .null, .null, .null] (v.toList ++ []) w' Q)) :
    px_Call E (d + 2) 0 0 mX7_mostLeft [.ref 48, .int x1, .int x2, .int x3] w Q :=
  px_enter (k := 3) (by decide) (Nat.le_of_ble_eq_true rfl) rfl (px_forget (bX7_mostLeft_0 hw k1) ⟨Or.inr rfl, Or.inr rfl, Or.inr rfl, Or.inr rfl, Or.inl rfl, Or.inl rfl, Or.inl rfl, trivial⟩)
theorem bX7_mostLeft_8 {E : px_E} {d : Nat} {w : pw_W} {Q : Option Value → pw_W → Prop} {t : ct_T} (hw : w.1 = cs t) {x1 x2 x3 : Int32}  
    (k1 : px_W E mX7_mostLeft (d + 2) 0 0 14 [.ref 48, .int x1, .int x2, .int x3, .int 0, .int 0, .null] [] w Q) :
    px_W E mX7_mostLeft (d + 2) 0 0 8 [.ref 48, .int x1, .int x2, .int x3, .null, .null, .null] [] w Q := by
  refine px_iconst dX7_mostLeft_8 ic_0 ?_
  refine px_istore (ls' := [.ref 48, .int x1, .int x2, .int x3, .int 0, .null, .null]) dX7_mostLeft_9 ⟨by decide, rfl⟩ rfl ?_
  refine px_iconst dX7_mostLeft_11 ic_0 ?_
  refine px_istore (ls' := [.ref 48, .int x1, .int x2, .int x3, .int 0, .int 0, .null]) dX7_mostLeft_12 ⟨by decide, rfl⟩ rfl ?_
  exact k1
theorem bX7_mostLeft_14 {E : px_E} {d : Nat} {w : pw_W} {Q : Option Value → pw_W → Prop} {t : ct_T} (hw : w.1 = cs t) {x1 x2 x3 x4 x5 : Int32}  
    (k1 : 30 < x5 → Q (some (.int x4)) w)
    (k2 : ¬ 30 < x5 → ¬ ((js_shr x1 x5) &&& 1) = 1 → px_W E mX7_mostLeft (d + 2) 0 0 70 [.ref 48, .int x1, .int x2, .int x3, .int x4, .int x5, .null] [] w Q)
    (k3 : ¬ 30 < x5 → ((js_shr x1 x5) &&& 1) = 1 → px_W E mX7_mostLeft (d + 2) 0 0 31 [.ref 48, .int x1, .int x2, .int x3, .int x4, .int x5, .null] [] w Q) :
    px_W E mX7_mostLeft (d + 2) 0 0 14 [.ref 48, .int x1, .int x2, .int x3, .int x4, .int x5, .null] [] w Q := by
  refine px_iload dX7_mostLeft_14 rfl ?_
  refine px_bipush dX7_mostLeft_16 bp_30 ?_
  refine px_icmp_gt (tgt := 76) dX7_mostLeft_18 (by decide) (fun h1 => ?_) (fun h1 => ?_)
  ·
    refine px_iload dX7_mostLeft_76 rfl ?_
    exact px_ireturn dX7_mostLeft_78 rfl rfl (k1 h1)
  ·
    refine px_iload_n dX7_mostLeft_21 rfl rfl ?_
    refine px_iload dX7_mostLeft_22 rfl ?_
    refine px_ishr dX7_mostLeft_24 ?_
    refine px_iconst dX7_mostLeft_25 ic_1 ?_
    refine px_iand dX7_mostLeft_26 ?_
    refine px_iconst dX7_mostLeft_27 ic_1 ?_
    refine px_icmp_ne (tgt := 70) dX7_mostLeft_28 (by decide) (fun h2 => ?_) (fun h2 => ?_)
    ·
      exact (k2 h1 h2)
    ·
      exact (k3 h1 h2)
theorem bX7_mostLeft_31 {E : px_E} {d : Nat} {w : pw_W} {Q : Option Value → pw_W → Prop} {t : ct_T} (hw : w.1 = cs t) {x1 x2 x3 x4 x5 : Int32}  (j1 : Nat) (hj1 : (hX7_cell x5 x2 x3) = nI j1) (hl1 : j1 < 2790) (j2 : Nat) (hj2 : (pw_I w 55 j1) = nI j2) (hl2 : j2 < 100)
    (k1 : px_W E mX7_mostLeft (d + 2) 0 0 70 [.ref 48, .int x1, .int x2, .int x3, .int (js_max x4 (pw_I (pw_sI w 56 j2 ((pw_I w 56 j2) + 1)) 56 j2)), .int x5, .null] [] (pw_sI w 56 j2 ((pw_I w 56 j2) + 1)) Q) :
    px_W E mX7_mostLeft (d + 2) 0 0 31 [.ref 48, .int x1, .int x2, .int x3, .int x4, .int x5, .null] [] w Q := by
  refine px_aload_n dX7_mostLeft_31 rfl rfl ?_
  refine px_getR (v := 55) dX7_mostLeft_32 fr_7_31 rfl (px_sh1 hw sh_48) (px_rf hw rf_48_6) (by decide) ?_
  refine px_iload dX7_mostLeft_35 rfl ?_
  refine px_iload_n dX7_mostLeft_37 rfl rfl ?_
  refine px_iload_n dX7_mostLeft_38 rfl rfl ?_
  refine px_callS (As := [.int x5, .int x2, .int x3]) (st := [.ref 55]) (rc := 0) (rs := 0) (mc := 0) (ms := 0) dX7_mostLeft_39 lk_7_76 rfl rfl (Nat.le_of_ble_eq_true rfl) (sX7_cell ?_)
  show px_W E mX7_mostLeft (d + 2) 0 0 42 [.ref 48, .int x1, .int x2, .int x3, .int x4, .int x5, .null] [.int (hX7_cell x5 x2 x3), .ref 55] w Q
  refine px_bald dX7_mostLeft_42 (px_sh2 hw sh_55) (by decide) j1 hj1 hl1 ?_
  refine px_istore (ls' := [.ref 48, .int x1, .int x2, .int x3, .int x4, .int x5, .int (pw_I w 55 j1)]) dX7_mostLeft_43 ⟨by decide, rfl⟩ rfl ?_
  refine px_aload_n dX7_mostLeft_45 rfl rfl ?_
  refine px_getR (v := 56) dX7_mostLeft_46 fr_7_35 rfl (px_sh1 hw sh_48) (px_rf hw rf_48_8) (by decide) ?_
  refine px_iload dX7_mostLeft_49 rfl ?_
  refine px_dup2 dX7_mostLeft_51 rfl rfl ?_
  refine px_iald dX7_mostLeft_52 (px_sh2 hw sh_56) (by decide) j2 hj2 hl2 ?_
  refine px_iconst dX7_mostLeft_53 ic_1 ?_
  refine px_iadd dX7_mostLeft_54 ?_
  refine px_iast dX7_mostLeft_55 (px_sh2 hw sh_56) (by decide) j2 hj2 hl2 (by omega) ?_
  refine px_iload dX7_mostLeft_56 rfl ?_
  refine px_aload_n dX7_mostLeft_58 rfl rfl ?_
  refine px_getR (v := 56) dX7_mostLeft_59 fr_7_35 rfl (px_sh1 (hI hw) sh_48) (px_rf (hI hw) rf_48_8) (by decide) ?_
  refine px_iload dX7_mostLeft_62 rfl ?_
  refine px_iald dX7_mostLeft_64 (px_sh2 (hI hw) sh_56) (by decide) j2 hj2 hl2 ?_
  refine px_mmax dX7_mostLeft_65 (px_in5 180 rfl rfl) (Nat.le_of_ble_eq_true rfl) (by omega) ?_
  refine px_istore (ls' := [.ref 48, .int x1, .int x2, .int x3, .int (js_max x4 (pw_I (pw_sI w 56 j2 ((pw_I w 56 j2) + 1)) 56 j2)), .int x5, .int (pw_I w 55 j1)]) dX7_mostLeft_68 ⟨by decide, rfl⟩ rfl ?_
  exact px_forget k1 ⟨Or.inr rfl, Or.inr rfl, Or.inr rfl, Or.inr rfl, Or.inr rfl, Or.inr rfl, Or.inl rfl, trivial⟩
theorem bX7_mostLeft_70 {E : px_E} {d : Nat} {w : pw_W} {Q : Option Value → pw_W → Prop} {t : ct_T} (hw : w.1 = cs t) {x1 x2 x3 x4 x5 : Int32}  
    (k1 : px_W E mX7_mostLeft (d + 2) 0 0 14 [.ref 48, .int x1, .int x2, .int x3, .int x4, .int (x5 + 1), .null] [] w Q) :
    px_W E mX7_mostLeft (d + 2) 0 0 70 [.ref 48, .int x1, .int x2, .int x3, .int x4, .int x5, .null] [] w Q := by
  refine px_iinc (ls' := [.ref 48, .int x1, .int x2, .int x3, .int x4, .int (x5 + 1), .null]) dX7_mostLeft_70 ⟨by decide, rfl⟩ rfl rfl rfl ?_
  refine px_goto (tgt := 14) dX7_mostLeft_73 (by decide) ?_
  exact k1
theorem dX7_agrees_0 : decode mX7_agrees.2.1 0 = .ok (.iconst 0, 1) := by decide +kernel
theorem dX7_agrees_1 : decode mX7_agrees.2.1 1 = .ok (.istore_n 3, 1) := by decide +kernel
theorem dX7_agrees_2 : decode mX7_agrees.2.1 2 = .ok (.iload_n 3, 1) := by decide +kernel
theorem dX7_agrees_3 : decode mX7_agrees.2.1 3 = .ok (.aload_n 0, 1) := by decide +kernel
theorem dX7_agrees_4 : decode mX7_agrees.2.1 4 = .ok (.getfield 45, 3) := by decide +kernel
theorem dX7_agrees_7 : decode mX7_agrees.2.1 7 = .ok (.if_icmp .ge 64, 3) := by decide +kernel
theorem dX7_agrees_10 : decode mX7_agrees.2.1 10 = .ok (.aload_n 0, 1) := by decide +kernel
theorem dX7_agrees_11 : decode mX7_agrees.2.1 11 = .ok (.iload_n 3, 1) := by decide +kernel
theorem dX7_agrees_12 : decode mX7_agrees.2.1 12 = .ok (.iload_n 2, 1) := by decide +kernel
theorem dX7_agrees_13 : decode mX7_agrees.2.1 13 = .ok (.invokevirtual 86, 3) := by decide +kernel
theorem dX7_agrees_16 : decode mX7_agrees.2.1 16 = .ok (.ifCond .eq 49, 3) := by decide +kernel
theorem dX7_agrees_19 : decode mX7_agrees.2.1 19 = .ok (.aload_n 0, 1) := by decide +kernel
theorem dX7_agrees_20 : decode mX7_agrees.2.1 20 = .ok (.getfield 31, 3) := by decide +kernel
theorem dX7_agrees_23 : decode mX7_agrees.2.1 23 = .ok (.iload_n 1, 1) := by decide +kernel
theorem dX7_agrees_24 : decode mX7_agrees.2.1 24 = .ok (.aload_n 0, 1) := by decide +kernel
theorem dX7_agrees_25 : decode mX7_agrees.2.1 25 = .ok (.getfield 11, 3) := by decide +kernel
theorem dX7_agrees_28 : decode mX7_agrees.2.1 28 = .ok (.iload_n 3, 1) := by decide +kernel
theorem dX7_agrees_29 : decode mX7_agrees.2.1 29 = .ok (.iaload, 1) := by decide +kernel
theorem dX7_agrees_30 : decode mX7_agrees.2.1 30 = .ok (.aload_n 0, 1) := by decide +kernel
theorem dX7_agrees_31 : decode mX7_agrees.2.1 31 = .ok (.getfield 15, 3) := by decide +kernel
theorem dX7_agrees_34 : decode mX7_agrees.2.1 34 = .ok (.iload_n 3, 1) := by decide +kernel
theorem dX7_agrees_35 : decode mX7_agrees.2.1 35 = .ok (.iaload, 1) := by decide +kernel
theorem dX7_agrees_36 : decode mX7_agrees.2.1 36 = .ok (.invokestatic 76, 3) := by decide +kernel
theorem dX7_agrees_39 : decode mX7_agrees.2.1 39 = .ok (.baload, 1) := by decide +kernel
theorem dX7_agrees_40 : decode mX7_agrees.2.1 40 = .ok (.aload_n 0, 1) := by decide +kernel
theorem dX7_agrees_41 : decode mX7_agrees.2.1 41 = .ok (.getfield 18, 3) := by decide +kernel
theorem dX7_agrees_44 : decode mX7_agrees.2.1 44 = .ok (.iload_n 3, 1) := by decide +kernel
theorem dX7_agrees_45 : decode mX7_agrees.2.1 45 = .ok (.iaload, 1) := by decide +kernel
theorem dX7_agrees_46 : decode mX7_agrees.2.1 46 = .ok (.if_icmp .lt 7, 3) := by decide +kernel
theorem dX7_agrees_49 : decode mX7_agrees.2.1 49 = .ok (.iconst 1, 1) := by decide +kernel
theorem dX7_agrees_50 : decode mX7_agrees.2.1 50 = .ok (.goto 4, 3) := by decide +kernel
theorem dX7_agrees_53 : decode mX7_agrees.2.1 53 = .ok (.iconst 0, 1) := by decide +kernel
theorem dX7_agrees_54 : decode mX7_agrees.2.1 54 = .ok (.aload_n 0, 1) := by decide +kernel
theorem dX7_agrees_55 : decode mX7_agrees.2.1 55 = .ok (.getfield 21, 3) := by decide +kernel
theorem dX7_agrees_58 : decode mX7_agrees.2.1 58 = .ok (.iload_n 3, 1) := by decide +kernel
theorem dX7_agrees_59 : decode mX7_agrees.2.1 59 = .ok (.baload, 1) := by decide +kernel
theorem dX7_agrees_60 : decode mX7_agrees.2.1 60 = .ok (.if_icmp .eq 5, 3) := by decide +kernel
theorem dX7_agrees_63 : decode mX7_agrees.2.1 63 = .ok (.iconst 0, 1) := by decide +kernel
theorem dX7_agrees_64 : decode mX7_agrees.2.1 64 = .ok (.ireturn, 1) := by decide +kernel
theorem dX7_agrees_65 : decode mX7_agrees.2.1 65 = .ok (.iinc 3 1, 3) := by decide +kernel
theorem dX7_agrees_68 : decode mX7_agrees.2.1 68 = .ok (.goto (-66), 3) := by decide +kernel
theorem dX7_agrees_71 : decode mX7_agrees.2.1 71 = .ok (.iconst 1, 1) := by decide +kernel
theorem dX7_agrees_72 : decode mX7_agrees.2.1 72 = .ok (.ireturn, 1) := by decide +kernel
theorem bX7_agrees_0 {E : px_E} {d : Nat} {w : pw_W} {Q : Option Value → pw_W → Prop} {t : ct_T} (hw : w.1 = cs t) {x1 x2 : Int32}  
    (k1 : px_W E mX7_agrees (d + 2) 0 0 2 [.ref 48, .int x1, .int x2, .int 0] [] w Q) :
    px_W E mX7_agrees (d + 2) 0 0 0 [.ref 48, .int x1, .int x2, .null] [] w Q := by
  refine px_iconst dX7_agrees_0 ic_0 ?_
  refine px_istore_n (ls' := [.ref 48, .int x1, .int x2, .int 0]) dX7_agrees_1 rfl ⟨by decide, rfl⟩ rfl ?_
  exact k1
theorem eX7_agrees {E : px_E} {d : Nat} {w : pw_W} {Q : Option Value → pw_W → Prop} {t : ct_T} (hw : w.1 = cs t) {x1 x2 : Int32}  
    (k1 : px_W E mX7_agrees (d + 2) 0 0 2 [.ref 48, .int x1, .int x2, .int 0] [] w Q) :
    px_Call E (d + 2) 0 0 mX7_agrees [.ref 48, .int x1, .int x2] w Q :=
  px_enter (k := 1) (by decide) (Nat.le_of_ble_eq_true rfl) rfl (px_forget (bX7_agrees_0 hw k1) ⟨Or.inr rfl, Or.inr rfl, Or.inr rfl, Or.inl rfl, trivial⟩)
theorem bX7_agrees_2 {E : px_E} {d : Nat} {w : pw_W} {Q : Option Value → pw_W → Prop} {t : ct_T} (hw : w.1 = cs t) {x1 x2 x3 : Int32}  
    (k1 : (pw_I w 48 10) ≤ x3 → Q (some (.int 1)) w)
    (k2 : ¬ (pw_I w 48 10) ≤ x3 → px_Call E (d + 1) 0 0 mX7_countsAt [.ref 48, .int x3, .int x2] w (fun v w' => px_W E mX7_agrees (d + 2) 0 0 16 [.ref 48, .int x1, .int x2, .int x3] (v.toList ++ []) w' Q)) :
    px_W E mX7_agrees (d + 2) 0 0 2 [.ref 48, .int x1, .int x2, .int x3] [] w Q := by
  refine px_iload_n dX7_agrees_2 rfl rfl ?_
  refine px_aload_n dX7_agrees_3 rfl rfl ?_
  refine px_getI dX7_agrees_4 fr_7_45 rfl (px_sh1 hw sh_48) ?_
  refine px_icmp_ge (tgt := 71) dX7_agrees_7 (by decide) (fun h1 => ?_) (fun h1 => ?_)
  ·
    refine px_iconst dX7_agrees_71 ic_1 ?_
    exact px_ireturn dX7_agrees_72 rfl (by decide) (k1 h1)
  ·
    refine px_aload_n dX7_agrees_10 rfl rfl ?_
    refine px_iload_n dX7_agrees_11 rfl rfl ?_
    refine px_iload_n dX7_agrees_12 rfl rfl ?_
    exact px_callV (As := [.int x3, .int x2]) (st := []) (rc := 0) (rs := 0) (mc := 0) (ms := 0) dX7_agrees_13 lk_7_86 (px_sh1 hw sh_48) rfl rfl (Nat.le_of_ble_eq_true rfl) (k2 h1)
theorem bX7_agrees_16 {E : px_E} {d : Nat} {w : pw_W} {Q : Option Value → pw_W → Prop} {t : ct_T} (hw : w.1 = cs t) {x1 x2 x3 y0 : Int32}  
    (k1 : y0 = 0 → px_W E mX7_agrees (d + 2) 0 0 65 [.ref 48, .int x1, .int x2, .int x3] [] w Q)
    (k2 : ¬ y0 = 0 → px_W E mX7_agrees (d + 2) 0 0 19 [.ref 48, .int x1, .int x2, .int x3] [] w Q) :
    px_W E mX7_agrees (d + 2) 0 0 16 [.ref 48, .int x1, .int x2, .int x3] [.int y0] w Q := by
  refine px_if_eq (tgt := 65) dX7_agrees_16 (by decide) (fun h1 => ?_) (fun h1 => ?_)
  ·
    exact (k1 h1)
  ·
    exact (k2 h1)
theorem bX7_agrees_19 {E : px_E} {d : Nat} {w : pw_W} {Q : Option Value → pw_W → Prop} {t : ct_T} (hw : w.1 = cs t) {x1 x2 x3 : Int32}  (j1 : Nat) (hj1 : x3 = nI j1) (hl1 : j1 < 30) (j2 : Nat) (hj2 : (hX7_cell x1 (pw_I w 49 j1) (pw_I w 50 j1)) = nI j2) (hl2 : j2 < 2790)
    (k1 : (pw_I w 55 j2) < (pw_I w 51 j1) → px_W E mX7_agrees (d + 2) 0 0 54 [.ref 48, .int x1, .int x2, .int x3] [.int 0] w Q)
    (k2 : ¬ (pw_I w 55 j2) < (pw_I w 51 j1) → px_W E mX7_agrees (d + 2) 0 0 54 [.ref 48, .int x1, .int x2, .int x3] [.int 1] w Q) :
    px_W E mX7_agrees (d + 2) 0 0 19 [.ref 48, .int x1, .int x2, .int x3] [] w Q := by
  refine px_aload_n dX7_agrees_19 rfl rfl ?_
  refine px_getR (v := 55) dX7_agrees_20 fr_7_31 rfl (px_sh1 hw sh_48) (px_rf hw rf_48_6) (by decide) ?_
  refine px_iload_n dX7_agrees_23 rfl rfl ?_
  refine px_aload_n dX7_agrees_24 rfl rfl ?_
  refine px_getR (v := 49) dX7_agrees_25 fr_7_11 rfl (px_sh1 hw sh_48) (px_rf hw rf_48_0) (by decide) ?_
  refine px_iload_n dX7_agrees_28 rfl rfl ?_
  refine px_iald dX7_agrees_29 (px_sh2 hw sh_49) (by decide) j1 hj1 hl1 ?_
  refine px_aload_n dX7_agrees_30 rfl rfl ?_
  refine px_getR (v := 50) dX7_agrees_31 fr_7_15 rfl (px_sh1 hw sh_48) (px_rf hw rf_48_1) (by decide) ?_
  refine px_iload_n dX7_agrees_34 rfl rfl ?_
  refine px_iald dX7_agrees_35 (px_sh2 hw sh_50) (by decide) j1 hj1 hl1 ?_
  refine px_callS (As := [.int x1, .int (pw_I w 49 j1), .int (pw_I w 50 j1)]) (st := [.ref 55]) (rc := 0) (rs := 0) (mc := 0) (ms := 0) dX7_agrees_36 lk_7_76 rfl rfl (Nat.le_of_ble_eq_true rfl) (sX7_cell ?_)
  show px_W E mX7_agrees (d + 2) 0 0 39 [.ref 48, .int x1, .int x2, .int x3] [.int (hX7_cell x1 (pw_I w 49 j1) (pw_I w 50 j1)), .ref 55] w Q
  refine px_bald dX7_agrees_39 (px_sh2 hw sh_55) (by decide) j2 hj2 hl2 ?_
  refine px_aload_n dX7_agrees_40 rfl rfl ?_
  refine px_getR (v := 51) dX7_agrees_41 fr_7_18 rfl (px_sh1 hw sh_48) (px_rf hw rf_48_2) (by decide) ?_
  refine px_iload_n dX7_agrees_44 rfl rfl ?_
  refine px_iald dX7_agrees_45 (px_sh2 hw sh_51) (by decide) j1 hj1 hl1 ?_
  refine px_icmp_lt (tgt := 53) dX7_agrees_46 (by decide) (fun h1 => ?_) (fun h1 => ?_)
  ·
    refine px_iconst dX7_agrees_53 ic_0 ?_
    exact (k1 h1)
  ·
    refine px_iconst dX7_agrees_49 ic_1 ?_
    refine px_goto (tgt := 54) dX7_agrees_50 (by decide) ?_
    exact (k2 h1)
theorem bX7_agrees_54 {E : px_E} {d : Nat} {w : pw_W} {Q : Option Value → pw_W → Prop} {t : ct_T} (hw : w.1 = cs t) {x1 x2 x3 y0 : Int32}  (j1 : Nat) (hj1 : x3 = nI j1) (hl1 : j1 < 30)
    (k1 : y0 = (pw_I w 52 j1) → px_W E mX7_agrees (d + 2) 0 0 65 [.ref 48, .int x1, .int x2, .int x3] [] w Q)
    (k2 : ¬ y0 = (pw_I w 52 j1) → Q (some (.int 0)) w) :
    px_W E mX7_agrees (d + 2) 0 0 54 [.ref 48, .int x1, .int x2, .int x3] [.int y0] w Q := by
  refine px_aload_n dX7_agrees_54 rfl rfl ?_
  refine px_getR (v := 52) dX7_agrees_55 fr_7_21 rfl (px_sh1 hw sh_48) (px_rf hw rf_48_3) (by decide) ?_
  refine px_iload_n dX7_agrees_58 rfl rfl ?_
  refine px_zald dX7_agrees_59 (px_sh2 hw sh_52) (by decide) j1 hj1 hl1 ?_
  refine px_icmp_eq (tgt := 65) dX7_agrees_60 (by decide) (fun h1 => ?_) (fun h1 => ?_)
  ·
    exact (k1 h1)
  ·
    refine px_iconst dX7_agrees_63 ic_0 ?_
    exact px_ireturn dX7_agrees_64 rfl (by decide) (k2 h1)
theorem bX7_agrees_65 {E : px_E} {d : Nat} {w : pw_W} {Q : Option Value → pw_W → Prop} {t : ct_T} (hw : w.1 = cs t) {x1 x2 x3 : Int32}  
    (k1 : px_W E mX7_agrees (d + 2) 0 0 2 [.ref 48, .int x1, .int x2, .int (x3 + 1)] [] w Q) :
    px_W E mX7_agrees (d + 2) 0 0 65 [.ref 48, .int x1, .int x2, .int x3] [] w Q := by
  refine px_iinc (ls' := [.ref 48, .int x1, .int x2, .int (x3 + 1)]) dX7_agrees_65 ⟨by decide, rfl⟩ rfl rfl rfl ?_
  refine px_goto (tgt := 2) dX7_agrees_68 (by decide) ?_
  exact k1
theorem dX7_countsAt_0 : decode mX7_countsAt.2.1 0 = .ok (.aload_n 0, 1) := by decide +kernel
theorem dX7_countsAt_1 : decode mX7_countsAt.2.1 1 = .ok (.getfield 28, 3) := by decide +kernel
theorem dX7_countsAt_4 : decode mX7_countsAt.2.1 4 = .ok (.iload_n 1, 1) := by decide +kernel
theorem dX7_countsAt_5 : decode mX7_countsAt.2.1 5 = .ok (.iaload, 1) := by decide +kernel
theorem dX7_countsAt_6 : decode mX7_countsAt.2.1 6 = .ok (.iconst (-1), 1) := by decide +kernel
theorem dX7_countsAt_7 : decode mX7_countsAt.2.1 7 = .ok (.if_icmp .eq 17, 3) := by decide +kernel
theorem dX7_countsAt_10 : decode mX7_countsAt.2.1 10 = .ok (.aload_n 0, 1) := by decide +kernel
theorem dX7_countsAt_11 : decode mX7_countsAt.2.1 11 = .ok (.getfield 28, 3) := by decide +kernel
theorem dX7_countsAt_14 : decode mX7_countsAt.2.1 14 = .ok (.iload_n 1, 1) := by decide +kernel
theorem dX7_countsAt_15 : decode mX7_countsAt.2.1 15 = .ok (.iaload, 1) := by decide +kernel
theorem dX7_countsAt_16 : decode mX7_countsAt.2.1 16 = .ok (.iload_n 2, 1) := by decide +kernel
theorem dX7_countsAt_17 : decode mX7_countsAt.2.1 17 = .ok (.if_icmp .gt 7, 3) := by decide +kernel
theorem dX7_countsAt_20 : decode mX7_countsAt.2.1 20 = .ok (.iconst 1, 1) := by decide +kernel
theorem dX7_countsAt_21 : decode mX7_countsAt.2.1 21 = .ok (.goto 4, 3) := by decide +kernel
theorem dX7_countsAt_24 : decode mX7_countsAt.2.1 24 = .ok (.iconst 0, 1) := by decide +kernel
theorem dX7_countsAt_25 : decode mX7_countsAt.2.1 25 = .ok (.istore_n 3, 1) := by decide +kernel
theorem dX7_countsAt_26 : decode mX7_countsAt.2.1 26 = .ok (.aload_n 0, 1) := by decide +kernel
theorem dX7_countsAt_27 : decode mX7_countsAt.2.1 27 = .ok (.getfield 25, 3) := by decide +kernel
theorem dX7_countsAt_30 : decode mX7_countsAt.2.1 30 = .ok (.iload_n 1, 1) := by decide +kernel
theorem dX7_countsAt_31 : decode mX7_countsAt.2.1 31 = .ok (.iaload, 1) := by decide +kernel
theorem dX7_countsAt_32 : decode mX7_countsAt.2.1 32 = .ok (.iload_n 2, 1) := by decide +kernel
theorem dX7_countsAt_33 : decode mX7_countsAt.2.1 33 = .ok (.if_icmp .gt 11, 3) := by decide +kernel
theorem dX7_countsAt_36 : decode mX7_countsAt.2.1 36 = .ok (.iload_n 3, 1) := by decide +kernel
theorem dX7_countsAt_37 : decode mX7_countsAt.2.1 37 = .ok (.ifCond .ne 7, 3) := by decide +kernel
theorem dX7_countsAt_40 : decode mX7_countsAt.2.1 40 = .ok (.iconst 1, 1) := by decide +kernel
theorem dX7_countsAt_41 : decode mX7_countsAt.2.1 41 = .ok (.goto 4, 3) := by decide +kernel
theorem dX7_countsAt_44 : decode mX7_countsAt.2.1 44 = .ok (.iconst 0, 1) := by decide +kernel
theorem dX7_countsAt_45 : decode mX7_countsAt.2.1 45 = .ok (.ireturn, 1) := by decide +kernel
theorem bX7_countsAt_0 {E : px_E} {d : Nat} {w : pw_W} {Q : Option Value → pw_W → Prop} {t : ct_T} (hw : w.1 = cs t) {x1 x2 : Int32}  (j1 : Nat) (hj1 : x1 = nI j1) (hl1 : j1 < 30)
    (k1 : (pw_I w 54 j1) = (-1) → px_W E mX7_countsAt (d + 1) 0 0 24 [.ref 48, .int x1, .int x2, .null] [] w Q)
    (k2 : ¬ (pw_I w 54 j1) = (-1) → px_W E mX7_countsAt (d + 1) 0 0 10 [.ref 48, .int x1, .int x2, .null] [] w Q) :
    px_W E mX7_countsAt (d + 1) 0 0 0 [.ref 48, .int x1, .int x2, .null] [] w Q := by
  refine px_aload_n dX7_countsAt_0 rfl rfl ?_
  refine px_getR (v := 54) dX7_countsAt_1 fr_7_28 rfl (px_sh1 hw sh_48) (px_rf hw rf_48_5) (by decide) ?_
  refine px_iload_n dX7_countsAt_4 rfl rfl ?_
  refine px_iald dX7_countsAt_5 (px_sh2 hw sh_54) (by decide) j1 hj1 hl1 ?_
  refine px_iconst dX7_countsAt_6 ic_m1 ?_
  refine px_icmp_eq (tgt := 24) dX7_countsAt_7 (by decide) (fun h1 => ?_) (fun h1 => ?_)
  ·
    exact (k1 h1)
  ·
    exact (k2 h1)
theorem eX7_countsAt {E : px_E} {d : Nat} {w : pw_W} {Q : Option Value → pw_W → Prop} {t : ct_T} (hw : w.1 = cs t) {x1 x2 : Int32}  (j1 : Nat) (hj1 : x1 = nI j1) (hl1 : j1 < 30)
    (k1 : (pw_I w 54 j1) = (-1) → px_W E mX7_countsAt (d + 1) 0 0 24 [.ref 48, .int x1, .int x2, .null] [] w Q)
    (k2 : ¬ (pw_I w 54 j1) = (-1) → px_W E mX7_countsAt (d + 1) 0 0 10 [.ref 48, .int x1, .int x2, .null] [] w Q) :
    px_Call E (d + 1) 0 0 mX7_countsAt [.ref 48, .int x1, .int x2] w Q :=
  px_enter (k := 1) (by decide) (Nat.le_of_ble_eq_true rfl) rfl (px_forget (bX7_countsAt_0 hw j1 hj1 hl1 k1 k2) ⟨Or.inr rfl, Or.inr rfl, Or.inr rfl, Or.inl rfl, trivial⟩)
theorem bX7_countsAt_10 {E : px_E} {d : Nat} {w : pw_W} {Q : Option Value → pw_W → Prop} {t : ct_T} (hw : w.1 = cs t) {x1 x2 : Int32}  (j1 : Nat) (hj1 : x1 = nI j1) (hl1 : j1 < 30)
    (k1 : x2 < (pw_I w 54 j1) → px_W E mX7_countsAt (d + 1) 0 0 24 [.ref 48, .int x1, .int x2, .null] [] w Q)
    (k2 : ¬ x2 < (pw_I w 54 j1) → px_W E mX7_countsAt (d + 1) 0 0 25 [.ref 48, .int x1, .int x2, .null] [.int 1] w Q) :
    px_W E mX7_countsAt (d + 1) 0 0 10 [.ref 48, .int x1, .int x2, .null] [] w Q := by
  refine px_aload_n dX7_countsAt_10 rfl rfl ?_
  refine px_getR (v := 54) dX7_countsAt_11 fr_7_28 rfl (px_sh1 hw sh_48) (px_rf hw rf_48_5) (by decide) ?_
  refine px_iload_n dX7_countsAt_14 rfl rfl ?_
  refine px_iald dX7_countsAt_15 (px_sh2 hw sh_54) (by decide) j1 hj1 hl1 ?_
  refine px_iload_n dX7_countsAt_16 rfl rfl ?_
  refine px_icmp_gt (tgt := 24) dX7_countsAt_17 (by decide) (fun h1 => ?_) (fun h1 => ?_)
  ·
    exact (k1 h1)
  ·
    refine px_iconst dX7_countsAt_20 ic_1 ?_
    refine px_goto (tgt := 25) dX7_countsAt_21 (by decide) ?_
    exact (k2 h1)
theorem bX7_countsAt_24 {E : px_E} {d : Nat} {w : pw_W} {Q : Option Value → pw_W → Prop} {t : ct_T} (hw : w.1 = cs t) {x1 x2 : Int32}  
    (k1 : px_W E mX7_countsAt (d + 1) 0 0 25 [.ref 48, .int x1, .int x2, .null] [.int 0] w Q) :
    px_W E mX7_countsAt (d + 1) 0 0 24 [.ref 48, .int x1, .int x2, .null] [] w Q := by
  refine px_iconst dX7_countsAt_24 ic_0 ?_
  exact k1
theorem bX7_countsAt_25 {E : px_E} {d : Nat} {w : pw_W} {Q : Option Value → pw_W → Prop} {t : ct_T} (hw : w.1 = cs t) {x1 x2 y0 : Int32}  (j1 : Nat) (hj1 : x1 = nI j1) (hl1 : j1 < 30)
    (k1 : x2 < (pw_I w 53 j1) → px_W E mX7_countsAt (d + 1) 0 0 44 [.null, .null, .null, .null] [] w Q)
    (k2 : ¬ x2 < (pw_I w 53 j1) → ¬ y0 = 0 → px_W E mX7_countsAt (d + 1) 0 0 44 [.null, .null, .null, .null] [] w Q)
    (k3 : ¬ x2 < (pw_I w 53 j1) → y0 = 0 → px_W E mX7_countsAt (d + 1) 0 0 45 [.null, .null, .null, .null] [.int 1] w Q) :
    px_W E mX7_countsAt (d + 1) 0 0 25 [.ref 48, .int x1, .int x2, .null] [.int y0] w Q := by
  refine px_istore_n (ls' := [.ref 48, .int x1, .int x2, .int y0]) dX7_countsAt_25 rfl ⟨by decide, rfl⟩ rfl ?_
  refine px_aload_n dX7_countsAt_26 rfl rfl ?_
  refine px_getR (v := 53) dX7_countsAt_27 fr_7_25 rfl (px_sh1 hw sh_48) (px_rf hw rf_48_4) (by decide) ?_
  refine px_iload_n dX7_countsAt_30 rfl rfl ?_
  refine px_iald dX7_countsAt_31 (px_sh2 hw sh_53) (by decide) j1 hj1 hl1 ?_
  refine px_iload_n dX7_countsAt_32 rfl rfl ?_
  refine px_icmp_gt (tgt := 44) dX7_countsAt_33 (by decide) (fun h1 => ?_) (fun h1 => ?_)
  ·
    exact px_forget (k1 h1) ⟨Or.inl rfl, Or.inl rfl, Or.inl rfl, Or.inl rfl, trivial⟩
  ·
    refine px_iload_n dX7_countsAt_36 rfl rfl ?_
    refine px_if_ne (tgt := 44) dX7_countsAt_37 (by decide) (fun h2 => ?_) (fun h2 => ?_)
    ·
      exact px_forget (k2 h1 h2) ⟨Or.inl rfl, Or.inl rfl, Or.inl rfl, Or.inl rfl, trivial⟩
    ·
      refine px_iconst dX7_countsAt_40 ic_1 ?_
      refine px_goto (tgt := 45) dX7_countsAt_41 (by decide) ?_
      exact px_forget (k3 h1 h2) ⟨Or.inl rfl, Or.inl rfl, Or.inl rfl, Or.inl rfl, trivial⟩
theorem bX7_countsAt_44 {E : px_E} {d : Nat} {w : pw_W} {Q : Option Value → pw_W → Prop} {t : ct_T} (hw : w.1 = cs t)  
    (k1 : px_W E mX7_countsAt (d + 1) 0 0 45 [.null, .null, .null, .null] [.int 0] w Q) :
    px_W E mX7_countsAt (d + 1) 0 0 44 [.null, .null, .null, .null] [] w Q := by
  refine px_iconst dX7_countsAt_44 ic_0 ?_
  exact k1
theorem bX7_countsAt_45 {E : px_E} {d : Nat} {w : pw_W} {Q : Option Value → pw_W → Prop} {t : ct_T} (hw : w.1 = cs t) {y0 : Int32}  (hb1 : y0 = 0 ∨ y0 = 1)
    (k1 : Q (some (.int y0)) w) :
    px_W E mX7_countsAt (d + 1) 0 0 45 [.null, .null, .null, .null] [.int y0] w Q := by
  exact px_ireturn dX7_countsAt_45 rfl (px_nb (hb1)) k1
theorem dX7_fillChart_0 : decode mX7_fillChart.2.1 0 = .ok (.aload_n 0, 1) := by decide +kernel
theorem dX7_fillChart_1 : decode mX7_fillChart.2.1 1 = .ok (.getfield 49, 3) := by decide +kernel
theorem dX7_fillChart_4 : decode mX7_fillChart.2.1 4 = .ok (.ifCond .eq 4, 3) := by decide +kernel
theorem dX7_fillChart_7 : decode mX7_fillChart.2.1 7 = .ok (.return_, 1) := by decide +kernel
theorem dX7_fillChart_8 : decode mX7_fillChart.2.1 8 = .ok (.iconst 0, 1) := by decide +kernel
theorem dX7_fillChart_9 : decode mX7_fillChart.2.1 9 = .ok (.istore_n 2, 1) := by decide +kernel
theorem dX7_fillChart_10 : decode mX7_fillChart.2.1 10 = .ok (.iload_n 2, 1) := by decide +kernel
theorem dX7_fillChart_11 : decode mX7_fillChart.2.1 11 = .ok (.bipush 30, 2) := by decide +kernel
theorem dX7_fillChart_13 : decode mX7_fillChart.2.1 13 = .ok (.if_icmp .gt 101, 3) := by decide +kernel
theorem dX7_fillChart_16 : decode mX7_fillChart.2.1 16 = .ok (.aload_n 0, 1) := by decide +kernel
theorem dX7_fillChart_17 : decode mX7_fillChart.2.1 17 = .ok (.getfield 41, 3) := by decide +kernel
theorem dX7_fillChart_20 : decode mX7_fillChart.2.1 20 = .ok (.aload_n 1, 1) := by decide +kernel
theorem dX7_fillChart_21 : decode mX7_fillChart.2.1 21 = .ok (.invokevirtual 89, 3) := by decide +kernel
theorem dX7_fillChart_24 : decode mX7_fillChart.2.1 24 = .ok (.aload_n 0, 1) := by decide +kernel
theorem dX7_fillChart_25 : decode mX7_fillChart.2.1 25 = .ok (.getfield 41, 3) := by decide +kernel
theorem dX7_fillChart_28 : decode mX7_fillChart.2.1 28 = .ok (.getfield 92, 3) := by decide +kernel
theorem dX7_fillChart_31 : decode mX7_fillChart.2.1 31 = .ok (.aload_n 1, 1) := by decide +kernel
theorem dX7_fillChart_32 : decode mX7_fillChart.2.1 32 = .ok (.getfield 57, 3) := by decide +kernel
theorem dX7_fillChart_35 : decode mX7_fillChart.2.1 35 = .ok (.iconst 1, 1) := by decide +kernel
theorem dX7_fillChart_36 : decode mX7_fillChart.2.1 36 = .ok (.isub, 1) := by decide +kernel
theorem dX7_fillChart_37 : decode mX7_fillChart.2.1 37 = .ok (.iload_n 2, 1) := by decide +kernel
theorem dX7_fillChart_38 : decode mX7_fillChart.2.1 38 = .ok (.iastore, 1) := by decide +kernel
theorem dX7_fillChart_39 : decode mX7_fillChart.2.1 39 = .ok (.iconst 0, 1) := by decide +kernel
theorem dX7_fillChart_40 : decode mX7_fillChart.2.1 40 = .ok (.istore_n 3, 1) := by decide +kernel
theorem dX7_fillChart_41 : decode mX7_fillChart.2.1 41 = .ok (.iload_n 3, 1) := by decide +kernel
theorem dX7_fillChart_42 : decode mX7_fillChart.2.1 42 = .ok (.bipush 14, 2) := by decide +kernel
theorem dX7_fillChart_44 : decode mX7_fillChart.2.1 44 = .ok (.if_icmp .gt 64, 3) := by decide +kernel
theorem dX7_fillChart_47 : decode mX7_fillChart.2.1 47 = .ok (.iconst 0, 1) := by decide +kernel
theorem dX7_fillChart_48 : decode mX7_fillChart.2.1 48 = .ok (.istore 4, 2) := by decide +kernel
theorem dX7_fillChart_50 : decode mX7_fillChart.2.1 50 = .ok (.iload 4, 2) := by decide +kernel
theorem dX7_fillChart_52 : decode mX7_fillChart.2.1 52 = .ok (.aload_n 1, 1) := by decide +kernel
theorem dX7_fillChart_53 : decode mX7_fillChart.2.1 53 = .ok (.getfield 57, 3) := by decide +kernel
theorem dX7_fillChart_56 : decode mX7_fillChart.2.1 56 = .ok (.if_icmp .ge 32, 3) := by decide +kernel
theorem dX7_fillChart_59 : decode mX7_fillChart.2.1 59 = .ok (.aload_n 0, 1) := by decide +kernel
theorem dX7_fillChart_60 : decode mX7_fillChart.2.1 60 = .ok (.getfield 31, 3) := by decide +kernel
theorem dX7_fillChart_63 : decode mX7_fillChart.2.1 63 = .ok (.iload_n 2, 1) := by decide +kernel
theorem dX7_fillChart_64 : decode mX7_fillChart.2.1 64 = .ok (.iload_n 3, 1) := by decide +kernel
theorem dX7_fillChart_65 : decode mX7_fillChart.2.1 65 = .ok (.iload 4, 2) := by decide +kernel
theorem dX7_fillChart_67 : decode mX7_fillChart.2.1 67 = .ok (.invokestatic 76, 3) := by decide +kernel
theorem dX7_fillChart_70 : decode mX7_fillChart.2.1 70 = .ok (.aload_n 0, 1) := by decide +kernel
theorem dX7_fillChart_71 : decode mX7_fillChart.2.1 71 = .ok (.getfield 41, 3) := by decide +kernel
theorem dX7_fillChart_74 : decode mX7_fillChart.2.1 74 = .ok (.getfield 95, 3) := by decide +kernel
theorem dX7_fillChart_77 : decode mX7_fillChart.2.1 77 = .ok (.iload 4, 2) := by decide +kernel
theorem dX7_fillChart_79 : decode mX7_fillChart.2.1 79 = .ok (.iaload, 1) := by decide +kernel
theorem dX7_fillChart_80 : decode mX7_fillChart.2.1 80 = .ok (.i2b, 1) := by decide +kernel
theorem dX7_fillChart_81 : decode mX7_fillChart.2.1 81 = .ok (.bastore, 1) := by decide +kernel
theorem dX7_fillChart_82 : decode mX7_fillChart.2.1 82 = .ok (.iinc 4 1, 3) := by decide +kernel
theorem dX7_fillChart_85 : decode mX7_fillChart.2.1 85 = .ok (.goto (-35), 3) := by decide +kernel
theorem dX7_fillChart_88 : decode mX7_fillChart.2.1 88 = .ok (.aload_n 1, 1) := by decide +kernel
theorem dX7_fillChart_89 : decode mX7_fillChart.2.1 89 = .ok (.aload_n 0, 1) := by decide +kernel
theorem dX7_fillChart_90 : decode mX7_fillChart.2.1 90 = .ok (.getfield 41, 3) := by decide +kernel
theorem dX7_fillChart_93 : decode mX7_fillChart.2.1 93 = .ok (.aload_n 1, 1) := by decide +kernel
theorem dX7_fillChart_94 : decode mX7_fillChart.2.1 94 = .ok (.getfield 98, 3) := by decide +kernel
theorem dX7_fillChart_97 : decode mX7_fillChart.2.1 97 = .ok (.iconst 0, 1) := by decide +kernel
theorem dX7_fillChart_98 : decode mX7_fillChart.2.1 98 = .ok (.invokevirtual 101, 3) := by decide +kernel
theorem dX7_fillChart_101 : decode mX7_fillChart.2.1 101 = .ok (.pop, 1) := by decide +kernel
theorem dX7_fillChart_102 : decode mX7_fillChart.2.1 102 = .ok (.iinc 3 1, 3) := by decide +kernel
theorem dX7_fillChart_105 : decode mX7_fillChart.2.1 105 = .ok (.goto (-64), 3) := by decide +kernel
theorem dX7_fillChart_108 : decode mX7_fillChart.2.1 108 = .ok (.iinc 2 1, 3) := by decide +kernel
theorem dX7_fillChart_111 : decode mX7_fillChart.2.1 111 = .ok (.goto (-101), 3) := by decide +kernel
theorem dX7_fillChart_114 : decode mX7_fillChart.2.1 114 = .ok (.aload_n 0, 1) := by decide +kernel
theorem dX7_fillChart_115 : decode mX7_fillChart.2.1 115 = .ok (.iconst 1, 1) := by decide +kernel
theorem dX7_fillChart_116 : decode mX7_fillChart.2.1 116 = .ok (.putfield 49, 3) := by decide +kernel
theorem dX7_fillChart_119 : decode mX7_fillChart.2.1 119 = .ok (.return_, 1) := by decide +kernel
theorem bX7_fillChart_0 {E : px_E} {d : Nat} {w : pw_W} {Q : Option Value → pw_W → Prop} {t : ct_T} (hw : w.1 = cs t) {r1 : Nat} (hr1 : is_Hamlet r1) 
    (k1 : (pw_I w 48 7) = 0 → px_W E mX7_fillChart (d + 2) 0 0 10 [.ref 48, .ref r1, .int 0, .null, .null] [] w Q)
    (k2 : ¬ (pw_I w 48 7) = 0 → Q none w) :
    px_W E mX7_fillChart (d + 2) 0 0 0 [.ref 48, .ref r1, .null, .null, .null] [] w Q := by
  refine px_aload_n dX7_fillChart_0 rfl rfl ?_
  refine px_getI dX7_fillChart_1 fr_7_49 rfl (px_sh1 hw sh_48) ?_
  refine px_if_eq (tgt := 8) dX7_fillChart_4 (by decide) (fun h1 => ?_) (fun h1 => ?_)
  ·
    refine px_iconst dX7_fillChart_8 ic_0 ?_
    refine px_istore_n (ls' := [.ref 48, .ref r1, .int 0, .null, .null]) dX7_fillChart_9 rfl ⟨by decide, rfl⟩ rfl ?_
    exact (k1 h1)
  ·
    exact px_return dX7_fillChart_7 rfl (k2 h1)
theorem eX7_fillChart {E : px_E} {d : Nat} {w : pw_W} {Q : Option Value → pw_W → Prop} {t : ct_T} (hw : w.1 = cs t) {r1 : Nat} (hr1 : is_Hamlet r1) 
    (k1 : (pw_I w 48 7) = 0 → px_W E mX7_fillChart (d + 2) 0 0 10 [.ref 48, .ref r1, .int 0, .null, .null] [] w Q)
    (k2 : ¬ (pw_I w 48 7) = 0 → Q none w) :
    px_Call E (d + 2) 0 0 mX7_fillChart [.ref 48, .ref r1] w Q :=
  px_enter (k := 3) (by decide) (Nat.le_of_ble_eq_true rfl) rfl (px_forget (bX7_fillChart_0 hw hr1 k1 k2) ⟨Or.inr rfl, Or.inr rfl, Or.inl rfl, Or.inl rfl, Or.inl rfl, trivial⟩)
theorem bX7_fillChart_10 {E : px_E} {d : Nat} {w : pw_W} {Q : Option Value → pw_W → Prop} {t : ct_T} (hw : w.1 = cs t) {x2 : Int32} {r1 : Nat} (hr1 : is_Hamlet r1) 
    (k1 : 30 < x2 → Q none (pw_sI w 48 7 1))
    (k2 : ¬ 30 < x2 → px_Call E (d + 1) 0 0 mX8_setAsTold [.ref 57, .ref r1] w (fun v w' => px_W E mX7_fillChart (d + 2) 0 0 24 [.ref 48, .ref r1, .int x2, .null, .null] (v.toList ++ []) w' Q)) :
    px_W E mX7_fillChart (d + 2) 0 0 10 [.ref 48, .ref r1, .int x2, .null, .null] [] w Q := by
  refine px_iload_n dX7_fillChart_10 rfl rfl ?_
  refine px_bipush dX7_fillChart_11 bp_30 ?_
  refine px_icmp_gt (tgt := 114) dX7_fillChart_13 (by decide) (fun h1 => ?_) (fun h1 => ?_)
  ·
    refine px_aload_n dX7_fillChart_114 rfl rfl ?_
    refine px_iconst dX7_fillChart_115 ic_1 ?_
    refine px_putI dX7_fillChart_116 fl_7_49 (Or.inl rfl) rfl (px_sh1 hw sh_48) (by decide) (by decide) (by omega) ?_
    exact px_return dX7_fillChart_119 rfl (k1 h1)
  ·
    refine px_aload_n dX7_fillChart_16 rfl rfl ?_
    refine px_getR (v := 57) dX7_fillChart_17 fr_7_41 rfl (px_sh1 hw sh_48) (px_rf hw rf_48_9) (by decide) ?_
    refine px_aload_n dX7_fillChart_20 rfl rfl ?_
    exact px_callV (As := [.ref r1]) (st := []) (rc := 0) (rs := 0) (mc := 0) (ms := 0) dX7_fillChart_21 lk_7_89 (px_sh1 hw sh_57) rfl rfl (Nat.le_of_ble_eq_true rfl) (k2 h1)
theorem bX7_fillChart_24 {E : px_E} {d : Nat} {w : pw_W} {Q : Option Value → pw_W → Prop} {t : ct_T} (hw : w.1 = cs t) {x2 : Int32} {r1 : Nat} (hr1 : is_Hamlet r1) (j1 : Nat) (hj1 : ((pw_I w r1 0) - 1) = nI j1) (hl1 : j1 < 6)
    (k1 : px_W E mX7_fillChart (d + 2) 0 0 41 [.ref 48, .ref r1, .int x2, .int 0, .null] [] (pw_sI w 59 j1 x2) Q) :
    px_W E mX7_fillChart (d + 2) 0 0 24 [.ref 48, .ref r1, .int x2, .null, .null] [] w Q := by
  refine px_aload_n dX7_fillChart_24 rfl rfl ?_
  refine px_getR (v := 57) dX7_fillChart_25 fr_7_41 rfl (px_sh1 hw sh_48) (px_rf hw rf_48_9) (by decide) ?_
  refine px_getR (v := 59) dX7_fillChart_28 fr_7_92 rfl (px_sh1 hw sh_57) (px_rf hw rf_57_1) (by decide) ?_
  refine px_aload_n dX7_fillChart_31 rfl rfl ?_
  refine px_getI dX7_fillChart_32 fr_7_57 rfl (px_sh1 hw hr1.sh) ?_
  refine px_iconst dX7_fillChart_35 ic_1 ?_
  refine px_isub dX7_fillChart_36 ?_
  refine px_iload_n dX7_fillChart_37 rfl rfl ?_
  refine px_iast dX7_fillChart_38 (px_sh2 hw sh_59) (by decide) j1 hj1 hl1 (by omega) ?_
  refine px_iconst dX7_fillChart_39 ic_0 ?_
  refine px_istore_n (ls' := [.ref 48, .ref r1, .int x2, .int 0, .null]) dX7_fillChart_40 rfl ⟨by decide, rfl⟩ rfl ?_
  exact k1
theorem bX7_fillChart_41 {E : px_E} {d : Nat} {w : pw_W} {Q : Option Value → pw_W → Prop} {t : ct_T} (hw : w.1 = cs t) {x2 x3 : Int32} {r1 : Nat} (hr1 : is_Hamlet r1) 
    (k1 : 14 < x3 → px_W E mX7_fillChart (d + 2) 0 0 10 [.ref 48, .ref r1, .int (x2 + 1), .null, .null] [] w Q)
    (k2 : ¬ 14 < x3 → px_W E mX7_fillChart (d + 2) 0 0 50 [.ref 48, .ref r1, .int x2, .int x3, .int 0] [] w Q) :
    px_W E mX7_fillChart (d + 2) 0 0 41 [.ref 48, .ref r1, .int x2, .int x3, .null] [] w Q := by
  refine px_iload_n dX7_fillChart_41 rfl rfl ?_
  refine px_bipush dX7_fillChart_42 bp_14 ?_
  refine px_icmp_gt (tgt := 108) dX7_fillChart_44 (by decide) (fun h1 => ?_) (fun h1 => ?_)
  ·
    refine px_iinc (ls' := [.ref 48, .ref r1, .int (x2 + 1), .int x3, .null]) dX7_fillChart_108 ⟨by decide, rfl⟩ rfl rfl rfl ?_
    refine px_goto (tgt := 10) dX7_fillChart_111 (by decide) ?_
    exact px_forget (k1 h1) ⟨Or.inr rfl, Or.inr rfl, Or.inr rfl, Or.inl rfl, Or.inl rfl, trivial⟩
  ·
    refine px_iconst dX7_fillChart_47 ic_0 ?_
    refine px_istore (ls' := [.ref 48, .ref r1, .int x2, .int x3, .int 0]) dX7_fillChart_48 ⟨by decide, rfl⟩ rfl ?_
    exact (k2 h1)
theorem bX7_fillChart_50 {E : px_E} {d : Nat} {w : pw_W} {Q : Option Value → pw_W → Prop} {t : ct_T} (hw : w.1 = cs t) {x2 x3 x4 : Int32} {r1 : Nat} (hr1 : is_Hamlet r1) 
    (k1 : (pw_I w r1 0) ≤ x4 → px_Call E (d + 1) 0 0 mX2_passDay [.ref r1, .ref 57, .ref (r1 + 9), .int 0] w (fun v w' => px_W E mX7_fillChart (d + 2) 0 0 101 [.ref 48, .ref r1, .int x2, .int x3, .null] (v.toList ++ []) w' Q))
    (k2 : ¬ (pw_I w r1 0) ≤ x4 → px_W E mX7_fillChart (d + 2) 0 0 59 [.ref 48, .ref r1, .int x2, .int x3, .int x4] [] w Q) :
    px_W E mX7_fillChart (d + 2) 0 0 50 [.ref 48, .ref r1, .int x2, .int x3, .int x4] [] w Q := by
  refine px_iload dX7_fillChart_50 rfl ?_
  refine px_aload_n dX7_fillChart_52 rfl rfl ?_
  refine px_getI dX7_fillChart_53 fr_7_57 rfl (px_sh1 hw hr1.sh) ?_
  refine px_icmp_ge (tgt := 88) dX7_fillChart_56 (by decide) (fun h1 => ?_) (fun h1 => ?_)
  ·
    refine px_aload_n dX7_fillChart_88 rfl rfl ?_
    refine px_aload_n dX7_fillChart_89 rfl rfl ?_
    refine px_getR (v := 57) dX7_fillChart_90 fr_7_41 rfl (px_sh1 hw sh_48) (px_rf hw rf_48_9) (by decide) ?_
    refine px_aload_n dX7_fillChart_93 rfl rfl ?_
    refine px_getR (v := (r1 + 9)) dX7_fillChart_94 fr_7_98 rfl (px_sh1 hw hr1.sh) (px_rf hw hr1.rf11) (Nat.succ_ne_zero _) ?_
    refine px_iconst dX7_fillChart_97 ic_0 ?_
    refine px_forget (ls' := [.ref 48, .ref r1, .int x2, .int x3, .null]) ?_ ⟨Or.inr rfl, Or.inr rfl, Or.inr rfl, Or.inr rfl, Or.inl rfl, trivial⟩
    exact px_callV (As := [.ref 57, .ref (r1 + 9), .int 0]) (st := []) (rc := 0) (rs := 0) (mc := 0) (ms := 0) dX7_fillChart_98 lk_7_101 (px_sh1 hw hr1.sh) rfl rfl (Nat.le_of_ble_eq_true rfl) (k1 h1)
  ·
    exact (k2 h1)
theorem bX7_fillChart_59 {E : px_E} {d : Nat} {w : pw_W} {Q : Option Value → pw_W → Prop} {t : ct_T} (hw : w.1 = cs t) {x2 x3 x4 : Int32} {r1 : Nat} (hr1 : is_Hamlet r1) (j1 : Nat) (hj1 : x4 = nI j1) (hl1 : j1 < 6) (j2 : Nat) (hj2 : (hX7_cell x2 x3 x4) = nI j2) (hl2 : j2 < 2790)
    (k1 : px_W E mX7_fillChart (d + 2) 0 0 50 [.ref 48, .ref r1, .int x2, .int x3, .int (x4 + 1)] [] (pw_sI w 55 j2 (js_i2b (js_i2b (pw_I w 58 j1)))) Q) :
    px_W E mX7_fillChart (d + 2) 0 0 59 [.ref 48, .ref r1, .int x2, .int x3, .int x4] [] w Q := by
  refine px_aload_n dX7_fillChart_59 rfl rfl ?_
  refine px_getR (v := 55) dX7_fillChart_60 fr_7_31 rfl (px_sh1 hw sh_48) (px_rf hw rf_48_6) (by decide) ?_
  refine px_iload_n dX7_fillChart_63 rfl rfl ?_
  refine px_iload_n dX7_fillChart_64 rfl rfl ?_
  refine px_iload dX7_fillChart_65 rfl ?_
  refine px_callS (As := [.int x2, .int x3, .int x4]) (st := [.ref 55]) (rc := 0) (rs := 0) (mc := 0) (ms := 0) dX7_fillChart_67 lk_7_76 rfl rfl (Nat.le_of_ble_eq_true rfl) (sX7_cell ?_)
  show px_W E mX7_fillChart (d + 2) 0 0 70 [.ref 48, .ref r1, .int x2, .int x3, .int x4] [.int (hX7_cell x2 x3 x4), .ref 55] w Q
  refine px_aload_n dX7_fillChart_70 rfl rfl ?_
  refine px_getR (v := 57) dX7_fillChart_71 fr_7_41 rfl (px_sh1 hw sh_48) (px_rf hw rf_48_9) (by decide) ?_
  refine px_getR (v := 58) dX7_fillChart_74 fr_7_95 rfl (px_sh1 hw sh_57) (px_rf hw rf_57_0) (by decide) ?_
  refine px_iload dX7_fillChart_77 rfl ?_
  refine px_iald dX7_fillChart_79 (px_sh2 hw sh_58) (by decide) j1 hj1 hl1 ?_
  refine px_i2b dX7_fillChart_80 ?_
  refine px_bast dX7_fillChart_81 (px_sh2 hw sh_55) (by decide) j2 hj2 hl2 (by omega) ?_
  refine px_iinc (ls' := [.ref 48, .ref r1, .int x2, .int x3, .int (x4 + 1)]) dX7_fillChart_82 ⟨by decide, rfl⟩ rfl rfl rfl ?_
  refine px_goto (tgt := 50) dX7_fillChart_85 (by decide) ?_
  exact k1
theorem bX7_fillChart_101 {E : px_E} {d : Nat} {w : pw_W} {Q : Option Value → pw_W → Prop} {t : ct_T} (hw : w.1 = cs t) {x2 x3 y0 : Int32} {r1 : Nat} (hr1 : is_Hamlet r1) 
    (k1 : px_W E mX7_fillChart (d + 2) 0 0 41 [.ref 48, .ref r1, .int x2, .int (x3 + 1), .null] [] w Q) :
    px_W E mX7_fillChart (d + 2) 0 0 101 [.ref 48, .ref r1, .int x2, .int x3, .null] [.int y0] w Q := by
  refine px_pop dX7_fillChart_101 rfl ?_
  refine px_iinc (ls' := [.ref 48, .ref r1, .int x2, .int (x3 + 1), .null]) dX7_fillChart_102 ⟨by decide, rfl⟩ rfl rfl rfl ?_
  refine px_goto (tgt := 41) dX7_fillChart_105 (by decide) ?_
  exact k1
