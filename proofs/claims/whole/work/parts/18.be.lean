theorem dX10_feed_0 : decode mX10_feed.2.1 0 = .ok (.aload_n 0, 1) := by decide +kernel
theorem dX10_feed_1 : decode mX10_feed.2.1 1 = .ok (.getfield 157, 3) := by decide +kernel
theorem dX10_feed_4 : decode mX10_feed.2.1 4 = .ok (.bipush 20, 2) := by decide +kernel
theorem dX10_feed_6 : decode mX10_feed.2.1 6 = .ok (.iadd, 1) := by decide +kernel
theorem dX10_feed_7 : decode mX10_feed.2.1 7 = .ok (.sipush 1600, 3) := by decide +kernel
theorem dX10_feed_10 : decode mX10_feed.2.1 10 = .ok (.if_icmp .le 5, 3) := by decide +kernel
theorem dX10_feed_13 : decode mX10_feed.2.1 13 = .ok (.iconst (-1), 1) := by decide +kernel
theorem dX10_feed_14 : decode mX10_feed.2.1 14 = .ok (.ireturn, 1) := by decide +kernel
theorem dX10_feed_15 : decode mX10_feed.2.1 15 = .ok (.aload_n 0, 1) := by decide +kernel
theorem dX10_feed_16 : decode mX10_feed.2.1 16 = .ok (.iload_n 1, 1) := by decide +kernel
theorem dX10_feed_17 : decode mX10_feed.2.1 17 = .ok (.invokevirtual 160, 3) := by decide +kernel
theorem dX10_feed_20 : decode mX10_feed.2.1 20 = .ok (.aload_n 0, 1) := by decide +kernel
theorem dX10_feed_21 : decode mX10_feed.2.1 21 = .ok (.iload_n 2, 1) := by decide +kernel
theorem dX10_feed_22 : decode mX10_feed.2.1 22 = .ok (.invokevirtual 160, 3) := by decide +kernel
theorem dX10_feed_25 : decode mX10_feed.2.1 25 = .ok (.aload_n 0, 1) := by decide +kernel
theorem dX10_feed_26 : decode mX10_feed.2.1 26 = .ok (.iload_n 3, 1) := by decide +kernel
theorem dX10_feed_27 : decode mX10_feed.2.1 27 = .ok (.invokevirtual 160, 3) := by decide +kernel
theorem dX10_feed_30 : decode mX10_feed.2.1 30 = .ok (.aload_n 0, 1) := by decide +kernel
theorem dX10_feed_31 : decode mX10_feed.2.1 31 = .ok (.iload 4, 2) := by decide +kernel
theorem dX10_feed_33 : decode mX10_feed.2.1 33 = .ok (.invokevirtual 160, 3) := by decide +kernel
theorem dX10_feed_36 : decode mX10_feed.2.1 36 = .ok (.aload_n 0, 1) := by decide +kernel
theorem dX10_feed_37 : decode mX10_feed.2.1 37 = .ok (.iload 5, 2) := by decide +kernel
theorem dX10_feed_39 : decode mX10_feed.2.1 39 = .ok (.invokevirtual 160, 3) := by decide +kernel
theorem dX10_feed_42 : decode mX10_feed.2.1 42 = .ok (.aload_n 0, 1) := by decide +kernel
theorem dX10_feed_43 : decode mX10_feed.2.1 43 = .ok (.getfield 157, 3) := by decide +kernel
theorem dX10_feed_46 : decode mX10_feed.2.1 46 = .ok (.ireturn, 1) := by decide +kernel
theorem bX10_feed_0 {E : px_E} {d : Nat} {w : pw_W} {Q : Option Value → pw_W → Prop} {t : ct_T} (hw : w.1 = cs t) {x1 x2 x3 x4 x5 : Int32}  
    (k1 : ((pw_I w 61 1) + 20) ≤ 1600 → px_Call E d 0 0 mX10_four [.ref 61, .int x1] w (fun v w' => px_W E mX10_feed (d + 1) 0 0 20 [.ref 61, .null, .int x2, .int x3, .int x4, .int x5] (v.toList ++ []) w' Q))
    (k2 : ¬ ((pw_I w 61 1) + 20) ≤ 1600 → Q (some (.int (-1))) w) :
    px_W E mX10_feed (d + 1) 0 0 0 [.ref 61, .int x1, .int x2, .int x3, .int x4, .int x5] [] w Q := by
  refine px_aload_n dX10_feed_0 rfl rfl ?_
  refine px_getI dX10_feed_1 fr_10_157 rfl (px_sh1 hw sh_61) ?_
  refine px_bipush dX10_feed_4 bp_20 ?_
  refine px_iadd dX10_feed_6 ?_
  refine px_sipush dX10_feed_7 sp_1600 ?_
  refine px_icmp_le (tgt := 15) dX10_feed_10 (by decide) (fun h1 => ?_) (fun h1 => ?_)
  ·
    refine px_aload_n dX10_feed_15 rfl rfl ?_
    refine px_iload_n dX10_feed_16 rfl rfl ?_
    refine px_forget (ls' := [.ref 61, .null, .int x2, .int x3, .int x4, .int x5]) ?_ ⟨Or.inr rfl, Or.inl rfl, Or.inr rfl, Or.inr rfl, Or.inr rfl, Or.inr rfl, trivial⟩
    exact px_callV (As := [.int x1]) (st := []) (rc := 0) (rs := 0) (mc := 0) (ms := 0) dX10_feed_17 lk_10_160 (px_sh1 hw sh_61) rfl rfl (Nat.le_of_ble_eq_true rfl) (k1 h1)
  ·
    refine px_iconst dX10_feed_13 ic_m1 ?_
    exact px_ireturn dX10_feed_14 rfl rfl (k2 h1)
theorem eX10_feed {E : px_E} {d : Nat} {w : pw_W} {Q : Option Value → pw_W → Prop} {t : ct_T} (hw : w.1 = cs t) {x1 x2 x3 x4 x5 : Int32}  
    (k1 : ((pw_I w 61 1) + 20) ≤ 1600 → px_Call E d 0 0 mX10_four [.ref 61, .int x1] w (fun v w' => px_W E mX10_feed (d + 1) 0 0 20 [.ref 61, .null, .int x2, .int x3, .int x4, .int x5] (v.toList ++ []) w' Q))
    (k2 : ¬ ((pw_I w 61 1) + 20) ≤ 1600 → Q (some (.int (-1))) w) :
    px_Call E (d + 1) 0 0 mX10_feed [.ref 61, .int x1, .int x2, .int x3, .int x4, .int x5] w Q :=
  px_enter (k := 0) (by decide) (Nat.le_of_ble_eq_true rfl) rfl (px_forget (bX10_feed_0 hw k1 k2) ⟨Or.inr rfl, Or.inr rfl, Or.inr rfl, Or.inr rfl, Or.inr rfl, Or.inr rfl, trivial⟩)
theorem bX10_feed_20 {E : px_E} {d : Nat} {w : pw_W} {Q : Option Value → pw_W → Prop} {t : ct_T} (hw : w.1 = cs t) {x2 x3 x4 x5 : Int32}  
    (k1 : px_Call E d 0 0 mX10_four [.ref 61, .int x2] w (fun v w' => px_W E mX10_feed (d + 1) 0 0 25 [.ref 61, .null, .null, .int x3, .int x4, .int x5] (v.toList ++ []) w' Q)) :
    px_W E mX10_feed (d + 1) 0 0 20 [.ref 61, .null, .int x2, .int x3, .int x4, .int x5] [] w Q := by
  refine px_aload_n dX10_feed_20 rfl rfl ?_
  refine px_iload_n dX10_feed_21 rfl rfl ?_
  refine px_forget (ls' := [.ref 61, .null, .null, .int x3, .int x4, .int x5]) ?_ ⟨Or.inr rfl, Or.inl rfl, Or.inl rfl, Or.inr rfl, Or.inr rfl, Or.inr rfl, trivial⟩
  exact px_callV (As := [.int x2]) (st := []) (rc := 0) (rs := 0) (mc := 0) (ms := 0) dX10_feed_22 lk_10_160 (px_sh1 hw sh_61) rfl rfl (Nat.le_of_ble_eq_true rfl) k1
theorem bX10_feed_25 {E : px_E} {d : Nat} {w : pw_W} {Q : Option Value → pw_W → Prop} {t : ct_T} (hw : w.1 = cs t) {x3 x4 x5 : Int32}  
    (k1 : px_Call E d 0 0 mX10_four [.ref 61, .int x3] w (fun v w' => px_W E mX10_feed (d + 1) 0 0 30 [.ref 61, .null, .null, .null, .int x4, .int x5] (v.toList ++ []) w' Q)) :
    px_W E mX10_feed (d + 1) 0 0 25 [.ref 61, .null, .null, .int x3, .int x4, .int x5] [] w Q := by
  refine px_aload_n dX10_feed_25 rfl rfl ?_
  refine px_iload_n dX10_feed_26 rfl rfl ?_
  refine px_forget (ls' := [.ref 61, .null, .null, .null, .int x4, .int x5]) ?_ ⟨Or.inr rfl, Or.inl rfl, Or.inl rfl, Or.inl rfl, Or.inr rfl, Or.inr rfl, trivial⟩
  exact px_callV (As := [.int x3]) (st := []) (rc := 0) (rs := 0) (mc := 0) (ms := 0) dX10_feed_27 lk_10_160 (px_sh1 hw sh_61) rfl rfl (Nat.le_of_ble_eq_true rfl) k1
theorem bX10_feed_30 {E : px_E} {d : Nat} {w : pw_W} {Q : Option Value → pw_W → Prop} {t : ct_T} (hw : w.1 = cs t) {x4 x5 : Int32}  
    (k1 : px_Call E d 0 0 mX10_four [.ref 61, .int x4] w (fun v w' => px_W E mX10_feed (d + 1) 0 0 36 [.ref 61, .null, .null, .null, .null, .int x5] (v.toList ++ []) w' Q)) :
    px_W E mX10_feed (d + 1) 0 0 30 [.ref 61, .null, .null, .null, .int x4, .int x5] [] w Q := by
  refine px_aload_n dX10_feed_30 rfl rfl ?_
  refine px_iload dX10_feed_31 rfl ?_
  refine px_forget (ls' := [.ref 61, .null, .null, .null, .null, .int x5]) ?_ ⟨Or.inr rfl, Or.inl rfl, Or.inl rfl, Or.inl rfl, Or.inl rfl, Or.inr rfl, trivial⟩
  exact px_callV (As := [.int x4]) (st := []) (rc := 0) (rs := 0) (mc := 0) (ms := 0) dX10_feed_33 lk_10_160 (px_sh1 hw sh_61) rfl rfl (Nat.le_of_ble_eq_true rfl) k1
theorem bX10_feed_36 {E : px_E} {d : Nat} {w : pw_W} {Q : Option Value → pw_W → Prop} {t : ct_T} (hw : w.1 = cs t) {x5 : Int32}  
    (k1 : px_Call E d 0 0 mX10_four [.ref 61, .int x5] w (fun v w' => px_W E mX10_feed (d + 1) 0 0 42 [.ref 61, .null, .null, .null, .null, .null] (v.toList ++ []) w' Q)) :
    px_W E mX10_feed (d + 1) 0 0 36 [.ref 61, .null, .null, .null, .null, .int x5] [] w Q := by
  refine px_aload_n dX10_feed_36 rfl rfl ?_
  refine px_iload dX10_feed_37 rfl ?_
  refine px_forget (ls' := [.ref 61, .null, .null, .null, .null, .null]) ?_ ⟨Or.inr rfl, Or.inl rfl, Or.inl rfl, Or.inl rfl, Or.inl rfl, Or.inl rfl, trivial⟩
  exact px_callV (As := [.int x5]) (st := []) (rc := 0) (rs := 0) (mc := 0) (ms := 0) dX10_feed_39 lk_10_160 (px_sh1 hw sh_61) rfl rfl (Nat.le_of_ble_eq_true rfl) k1
theorem bX10_feed_42 {E : px_E} {d : Nat} {w : pw_W} {Q : Option Value → pw_W → Prop} {t : ct_T} (hw : w.1 = cs t)  
    (k1 : Q (some (.int (pw_I w 61 1))) w) :
    px_W E mX10_feed (d + 1) 0 0 42 [.ref 61, .null, .null, .null, .null, .null] [] w Q := by
  refine px_aload_n dX10_feed_42 rfl rfl ?_
  refine px_getI dX10_feed_43 fr_10_157 rfl (px_sh1 hw sh_61) ?_
  exact px_ireturn dX10_feed_46 rfl rfl k1
theorem dX10_four_0 : decode mX10_four.2.1 0 = .ok (.bipush 24, 2) := by decide +kernel
theorem dX10_four_2 : decode mX10_four.2.1 2 = .ok (.istore_n 2, 1) := by decide +kernel
theorem dX10_four_3 : decode mX10_four.2.1 3 = .ok (.iload_n 2, 1) := by decide +kernel
theorem dX10_four_4 : decode mX10_four.2.1 4 = .ok (.ifCond .lt 35, 3) := by decide +kernel
theorem dX10_four_7 : decode mX10_four.2.1 7 = .ok (.aload_n 0, 1) := by decide +kernel
theorem dX10_four_8 : decode mX10_four.2.1 8 = .ok (.getfield 7, 3) := by decide +kernel
theorem dX10_four_11 : decode mX10_four.2.1 11 = .ok (.aload_n 0, 1) := by decide +kernel
theorem dX10_four_12 : decode mX10_four.2.1 12 = .ok (.getfield 157, 3) := by decide +kernel
theorem dX10_four_15 : decode mX10_four.2.1 15 = .ok (.iload_n 1, 1) := by decide +kernel
theorem dX10_four_16 : decode mX10_four.2.1 16 = .ok (.iload_n 2, 1) := by decide +kernel
theorem dX10_four_17 : decode mX10_four.2.1 17 = .ok (.ishr, 1) := by decide +kernel
theorem dX10_four_18 : decode mX10_four.2.1 18 = .ok (.sipush 255, 3) := by decide +kernel
theorem dX10_four_21 : decode mX10_four.2.1 21 = .ok (.iand, 1) := by decide +kernel
theorem dX10_four_22 : decode mX10_four.2.1 22 = .ok (.iastore, 1) := by decide +kernel
theorem dX10_four_23 : decode mX10_four.2.1 23 = .ok (.aload_n 0, 1) := by decide +kernel
theorem dX10_four_24 : decode mX10_four.2.1 24 = .ok (.dup, 1) := by decide +kernel
theorem dX10_four_25 : decode mX10_four.2.1 25 = .ok (.getfield 157, 3) := by decide +kernel
theorem dX10_four_28 : decode mX10_four.2.1 28 = .ok (.iconst 1, 1) := by decide +kernel
theorem dX10_four_29 : decode mX10_four.2.1 29 = .ok (.iadd, 1) := by decide +kernel
theorem dX10_four_30 : decode mX10_four.2.1 30 = .ok (.putfield 157, 3) := by decide +kernel
theorem dX10_four_33 : decode mX10_four.2.1 33 = .ok (.iinc 2 (-8), 3) := by decide +kernel
theorem dX10_four_36 : decode mX10_four.2.1 36 = .ok (.goto (-33), 3) := by decide +kernel
theorem dX10_four_39 : decode mX10_four.2.1 39 = .ok (.return_, 1) := by decide +kernel
theorem bX10_four_0 {E : px_E} {d : Nat} {w : pw_W} {Q : Option Value → pw_W → Prop} {t : ct_T} (hw : w.1 = cs t) {x1 : Int32}  
    (k1 : px_W E mX10_four (d + 1) 0 0 3 [.ref 61, .int x1, .int 24] [] w Q) :
    px_W E mX10_four (d + 1) 0 0 0 [.ref 61, .int x1, .null] [] w Q := by
  refine px_bipush dX10_four_0 bp_24 ?_
  refine px_istore_n (ls' := [.ref 61, .int x1, .int 24]) dX10_four_2 rfl ⟨by decide, rfl⟩ rfl ?_
  exact k1
theorem eX10_four {E : px_E} {d : Nat} {w : pw_W} {Q : Option Value → pw_W → Prop} {t : ct_T} (hw : w.1 = cs t) {x1 : Int32}  
    (k1 : px_W E mX10_four (d + 1) 0 0 3 [.ref 61, .int x1, .int 24] [] w Q) :
    px_Call E (d + 1) 0 0 mX10_four [.ref 61, .int x1] w Q :=
  px_enter (k := 1) (by decide) (Nat.le_of_ble_eq_true rfl) rfl (px_forget (bX10_four_0 hw k1) ⟨Or.inr rfl, Or.inr rfl, Or.inl rfl, trivial⟩)
theorem bX10_four_3 {E : px_E} {d : Nat} {w : pw_W} {Q : Option Value → pw_W → Prop} {t : ct_T} (hw : w.1 = cs t) {x1 x2 : Int32}  
    (k1 : x2 < 0 → Q none w)
    (k2 : ¬ x2 < 0 → px_W E mX10_four (d + 1) 0 0 7 [.ref 61, .int x1, .int x2] [] w Q) :
    px_W E mX10_four (d + 1) 0 0 3 [.ref 61, .int x1, .int x2] [] w Q := by
  refine px_iload_n dX10_four_3 rfl rfl ?_
  refine px_if_lt (tgt := 39) dX10_four_4 (by decide) (fun h1 => ?_) (fun h1 => ?_)
  ·
    exact px_return dX10_four_39 rfl (k1 h1)
  ·
    exact (k2 h1)
theorem bX10_four_7 {E : px_E} {d : Nat} {w : pw_W} {Q : Option Value → pw_W → Prop} {t : ct_T} (hw : w.1 = cs t) {x1 x2 : Int32}  (j1 : Nat) (hj1 : (pw_I w 61 1) = nI j1) (hl1 : j1 < 1600)
    (k1 : px_W E mX10_four (d + 1) 0 0 3 [.ref 61, .int x1, .int (x2 + (-8))] [] (pw_sI (pw_sI w 62 j1 ((js_shr x1 x2) &&& 255)) 61 1 ((pw_I w 61 1) + 1)) Q) :
    px_W E mX10_four (d + 1) 0 0 7 [.ref 61, .int x1, .int x2] [] w Q := by
  refine px_aload_n dX10_four_7 rfl rfl ?_
  refine px_getR (v := 62) dX10_four_8 fr_10_7 rfl (px_sh1 hw sh_61) (px_rf hw rf_61_0) (by decide) ?_
  refine px_aload_n dX10_four_11 rfl rfl ?_
  refine px_getI dX10_four_12 fr_10_157 rfl (px_sh1 hw sh_61) ?_
  refine px_iload_n dX10_four_15 rfl rfl ?_
  refine px_iload_n dX10_four_16 rfl rfl ?_
  refine px_ishr dX10_four_17 ?_
  refine px_sipush dX10_four_18 sp_255 ?_
  refine px_iand dX10_four_21 ?_
  refine px_iast dX10_four_22 (px_sh2 hw sh_62) (by decide) j1 hj1 hl1 (by omega) ?_
  refine px_aload_n dX10_four_23 rfl rfl ?_
  refine px_dup dX10_four_24 rfl ?_
  refine px_getIv (v := (pw_I w 61 1)) dX10_four_25 fr_10_157 rfl (px_sh1 (hI hw) sh_61) rfl ?_
  refine px_iconst dX10_four_28 ic_1 ?_
  refine px_iadd dX10_four_29 ?_
  refine px_putI dX10_four_30 fl_10_157 (Or.inl rfl) rfl (px_sh1 (hI hw) sh_61) rfl rfl (by omega) ?_
  refine px_iinc (ls' := [.ref 61, .int x1, .int (x2 + (-8))]) dX10_four_33 ⟨by decide, rfl⟩ rfl rfl rfl ?_
  refine px_goto (tgt := 3) dX10_four_36 (by decide) ?_
  exact k1
theorem dX10_end_0 : decode mX10_end.2.1 0 = .ok (.iload_n 1, 1) := by decide +kernel
theorem dX10_end_1 : decode mX10_end.2.1 1 = .ok (.ifCond .lt 11, 3) := by decide +kernel
theorem dX10_end_4 : decode mX10_end.2.1 4 = .ok (.iload_n 1, 1) := by decide +kernel
theorem dX10_end_5 : decode mX10_end.2.1 5 = .ok (.aload_n 0, 1) := by decide +kernel
theorem dX10_end_6 : decode mX10_end.2.1 6 = .ok (.getfield 157, 3) := by decide +kernel
theorem dX10_end_9 : decode mX10_end.2.1 9 = .ok (.if_icmp .le 5, 3) := by decide +kernel
theorem dX10_end_12 : decode mX10_end.2.1 12 = .ok (.iconst (-1), 1) := by decide +kernel
theorem dX10_end_13 : decode mX10_end.2.1 13 = .ok (.ireturn, 1) := by decide +kernel
theorem dX10_end_14 : decode mX10_end.2.1 14 = .ok (.aload_n 0, 1) := by decide +kernel
theorem dX10_end_15 : decode mX10_end.2.1 15 = .ok (.iload_n 1, 1) := by decide +kernel
theorem dX10_end_16 : decode mX10_end.2.1 16 = .ok (.putfield 157, 3) := by decide +kernel
theorem dX10_end_19 : decode mX10_end.2.1 19 = .ok (.iload_n 1, 1) := by decide +kernel
theorem dX10_end_20 : decode mX10_end.2.1 20 = .ok (.ireturn, 1) := by decide +kernel
theorem bX10_end_0 {E : px_E} {d : Nat} {w : pw_W} {Q : Option Value → pw_W → Prop} {t : ct_T} (hw : w.1 = cs t) {x1 : Int32}  
    (k1 : x1 < 0 → px_W E mX10_end (d + 1) 0 0 12 [.null, .null] [] w Q)
    (k2 : ¬ x1 < 0 → x1 ≤ (pw_I w 61 1) → Q (some (.int x1)) (pw_sI w 61 1 x1))
    (k3 : ¬ x1 < 0 → ¬ x1 ≤ (pw_I w 61 1) → px_W E mX10_end (d + 1) 0 0 12 [.null, .null] [] w Q) :
    px_W E mX10_end (d + 1) 0 0 0 [.ref 61, .int x1] [] w Q := by
  refine px_iload_n dX10_end_0 rfl rfl ?_
  refine px_if_lt (tgt := 12) dX10_end_1 (by decide) (fun h1 => ?_) (fun h1 => ?_)
  ·
    exact px_forget (k1 h1) ⟨Or.inl rfl, Or.inl rfl, trivial⟩
  ·
    refine px_iload_n dX10_end_4 rfl rfl ?_
    refine px_aload_n dX10_end_5 rfl rfl ?_
    refine px_getI dX10_end_6 fr_10_157 rfl (px_sh1 hw sh_61) ?_
    refine px_icmp_le (tgt := 14) dX10_end_9 (by decide) (fun h2 => ?_) (fun h2 => ?_)
    ·
      refine px_aload_n dX10_end_14 rfl rfl ?_
      refine px_iload_n dX10_end_15 rfl rfl ?_
      refine px_putI dX10_end_16 fl_10_157 (Or.inl rfl) rfl (px_sh1 hw sh_61) rfl rfl (by omega) ?_
      refine px_iload_n dX10_end_19 rfl rfl ?_
      exact px_ireturn dX10_end_20 rfl rfl (k2 h1 h2)
    ·
      exact px_forget (k3 h1 h2) ⟨Or.inl rfl, Or.inl rfl, trivial⟩
theorem eX10_end {E : px_E} {d : Nat} {w : pw_W} {Q : Option Value → pw_W → Prop} {t : ct_T} (hw : w.1 = cs t) {x1 : Int32}  
    (k1 : x1 < 0 → px_W E mX10_end (d + 1) 0 0 12 [.null, .null] [] w Q)
    (k2 : ¬ x1 < 0 → x1 ≤ (pw_I w 61 1) → Q (some (.int x1)) (pw_sI w 61 1 x1))
    (k3 : ¬ x1 < 0 → ¬ x1 ≤ (pw_I w 61 1) → px_W E mX10_end (d + 1) 0 0 12 [.null, .null] [] w Q) :
    px_Call E (d + 1) 0 0 mX10_end [.ref 61, .int x1] w Q :=
  px_enter (k := 0) (by decide) (Nat.le_of_ble_eq_true rfl) rfl (px_forget (bX10_end_0 hw k1 k2 k3) ⟨Or.inr rfl, Or.inr rfl, trivial⟩)
theorem bX10_end_12 {E : px_E} {d : Nat} {w : pw_W} {Q : Option Value → pw_W → Prop} {t : ct_T} (hw : w.1 = cs t)  
    (k1 : Q (some (.int (-1))) w) :
    px_W E mX10_end (d + 1) 0 0 12 [.null, .null] [] w Q := by
  refine px_iconst dX10_end_12 ic_m1 ?_
  exact px_ireturn dX10_end_13 rfl rfl k1
theorem dX10_here_0 : decode mX10_here.2.1 0 = .ok (.aload_n 0, 1) := by decide +kernel
theorem dX10_here_1 : decode mX10_here.2.1 1 = .ok (.getfield 164, 3) := by decide +kernel
theorem dX10_here_4 : decode mX10_here.2.1 4 = .ok (.iload_n 1, 1) := by decide +kernel
theorem dX10_here_5 : decode mX10_here.2.1 5 = .ok (.iadd, 1) := by decide +kernel
theorem dX10_here_6 : decode mX10_here.2.1 6 = .ok (.aload_n 0, 1) := by decide +kernel
theorem dX10_here_7 : decode mX10_here.2.1 7 = .ok (.getfield 167, 3) := by decide +kernel
theorem dX10_here_10 : decode mX10_here.2.1 10 = .ok (.if_icmp .ge 17, 3) := by decide +kernel
theorem dX10_here_13 : decode mX10_here.2.1 13 = .ok (.aload_n 0, 1) := by decide +kernel
theorem dX10_here_14 : decode mX10_here.2.1 14 = .ok (.getfield 7, 3) := by decide +kernel
theorem dX10_here_17 : decode mX10_here.2.1 17 = .ok (.aload_n 0, 1) := by decide +kernel
theorem dX10_here_18 : decode mX10_here.2.1 18 = .ok (.getfield 164, 3) := by decide +kernel
theorem dX10_here_21 : decode mX10_here.2.1 21 = .ok (.iload_n 1, 1) := by decide +kernel
theorem dX10_here_22 : decode mX10_here.2.1 22 = .ok (.iadd, 1) := by decide +kernel
theorem dX10_here_23 : decode mX10_here.2.1 23 = .ok (.iaload, 1) := by decide +kernel
theorem dX10_here_24 : decode mX10_here.2.1 24 = .ok (.goto 4, 3) := by decide +kernel
theorem dX10_here_27 : decode mX10_here.2.1 27 = .ok (.iconst (-1), 1) := by decide +kernel
theorem dX10_here_28 : decode mX10_here.2.1 28 = .ok (.ireturn, 1) := by decide +kernel
theorem bX10_here_0 {E : px_E} {d : Nat} {w : pw_W} {Q : Option Value → pw_W → Prop} {t : ct_T} (hw : w.1 = cs t) {x1 : Int32}  
    (k1 : (pw_I w 61 5) ≤ ((pw_I w 61 4) + x1) → px_W E mX10_here (d + 1) 0 0 28 [.null, .null] [.int (-1)] w Q)
    (k2 : ¬ (pw_I w 61 5) ≤ ((pw_I w 61 4) + x1) → px_W E mX10_here (d + 1) 0 0 13 [.ref 61, .int x1] [] w Q) :
    px_W E mX10_here (d + 1) 0 0 0 [.ref 61, .int x1] [] w Q := by
  refine px_aload_n dX10_here_0 rfl rfl ?_
  refine px_getI dX10_here_1 fr_10_164 rfl (px_sh1 hw sh_61) ?_
  refine px_iload_n dX10_here_4 rfl rfl ?_
  refine px_iadd dX10_here_5 ?_
  refine px_aload_n dX10_here_6 rfl rfl ?_
  refine px_getI dX10_here_7 fr_10_167 rfl (px_sh1 hw sh_61) ?_
  refine px_icmp_ge (tgt := 27) dX10_here_10 (by decide) (fun h1 => ?_) (fun h1 => ?_)
  ·
    refine px_iconst dX10_here_27 ic_m1 ?_
    exact px_forget (k1 h1) ⟨Or.inl rfl, Or.inl rfl, trivial⟩
  ·
    exact (k2 h1)
theorem eX10_here {E : px_E} {d : Nat} {w : pw_W} {Q : Option Value → pw_W → Prop} {t : ct_T} (hw : w.1 = cs t) {x1 : Int32}  
    (k1 : (pw_I w 61 5) ≤ ((pw_I w 61 4) + x1) → px_W E mX10_here (d + 1) 0 0 28 [.null, .null] [.int (-1)] w Q)
    (k2 : ¬ (pw_I w 61 5) ≤ ((pw_I w 61 4) + x1) → px_W E mX10_here (d + 1) 0 0 13 [.ref 61, .int x1] [] w Q) :
    px_Call E (d + 1) 0 0 mX10_here [.ref 61, .int x1] w Q :=
  px_enter (k := 0) (by decide) (Nat.le_of_ble_eq_true rfl) rfl (px_forget (bX10_here_0 hw k1 k2) ⟨Or.inr rfl, Or.inr rfl, trivial⟩)
theorem bX10_here_13 {E : px_E} {d : Nat} {w : pw_W} {Q : Option Value → pw_W → Prop} {t : ct_T} (hw : w.1 = cs t) {x1 : Int32}  (j1 : Nat) (hj1 : ((pw_I w 61 4) + x1) = nI j1) (hl1 : j1 < 1600)
    (k1 : px_W E mX10_here (d + 1) 0 0 28 [.null, .null] [.int (pw_I w 62 j1)] w Q) :
    px_W E mX10_here (d + 1) 0 0 13 [.ref 61, .int x1] [] w Q := by
  refine px_aload_n dX10_here_13 rfl rfl ?_
  refine px_getR (v := 62) dX10_here_14 fr_10_7 rfl (px_sh1 hw sh_61) (px_rf hw rf_61_0) (by decide) ?_
  refine px_aload_n dX10_here_17 rfl rfl ?_
  refine px_getI dX10_here_18 fr_10_164 rfl (px_sh1 hw sh_61) ?_
  refine px_iload_n dX10_here_21 rfl rfl ?_
  refine px_iadd dX10_here_22 ?_
  refine px_iald dX10_here_23 (px_sh2 hw sh_62) (by decide) j1 hj1 hl1 ?_
  refine px_goto (tgt := 28) dX10_here_24 (by decide) ?_
  exact px_forget k1 ⟨Or.inl rfl, Or.inl rfl, trivial⟩
theorem bX10_here_28 {E : px_E} {d : Nat} {w : pw_W} {Q : Option Value → pw_W → Prop} {t : ct_T} (hw : w.1 = cs t) {y0 : Int32}  
    (k1 : Q (some (.int y0)) w) :
    px_W E mX10_here (d + 1) 0 0 28 [.null, .null] [.int y0] w Q := by
  exact px_ireturn dX10_here_28 rfl rfl k1
theorem dX10_token_0 : decode mX10_token.2.1 0 = .ok (.aload_n 0, 1) := by decide +kernel
theorem dX10_token_1 : decode mX10_token.2.1 1 = .ok (.iconst 0, 1) := by decide +kernel
theorem dX10_token_2 : decode mX10_token.2.1 2 = .ok (.invokevirtual 170, 3) := by decide +kernel
theorem dX10_token_5 : decode mX10_token.2.1 5 = .ok (.bipush 32, 2) := by decide +kernel
theorem dX10_token_7 : decode mX10_token.2.1 7 = .ok (.if_icmp .eq 13, 3) := by decide +kernel
theorem dX10_token_10 : decode mX10_token.2.1 10 = .ok (.aload_n 0, 1) := by decide +kernel
theorem dX10_token_11 : decode mX10_token.2.1 11 = .ok (.iconst 0, 1) := by decide +kernel
theorem dX10_token_12 : decode mX10_token.2.1 12 = .ok (.invokevirtual 170, 3) := by decide +kernel
theorem dX10_token_15 : decode mX10_token.2.1 15 = .ok (.bipush 10, 2) := by decide +kernel
theorem dX10_token_17 : decode mX10_token.2.1 17 = .ok (.if_icmp .ne 16, 3) := by decide +kernel
theorem dX10_token_20 : decode mX10_token.2.1 20 = .ok (.aload_n 0, 1) := by decide +kernel
theorem dX10_token_21 : decode mX10_token.2.1 21 = .ok (.dup, 1) := by decide +kernel
theorem dX10_token_22 : decode mX10_token.2.1 22 = .ok (.getfield 164, 3) := by decide +kernel
theorem dX10_token_25 : decode mX10_token.2.1 25 = .ok (.iconst 1, 1) := by decide +kernel
theorem dX10_token_26 : decode mX10_token.2.1 26 = .ok (.iadd, 1) := by decide +kernel
theorem dX10_token_27 : decode mX10_token.2.1 27 = .ok (.putfield 164, 3) := by decide +kernel
theorem dX10_token_30 : decode mX10_token.2.1 30 = .ok (.goto (-30), 3) := by decide +kernel
theorem dX10_token_33 : decode mX10_token.2.1 33 = .ok (.aload_n 0, 1) := by decide +kernel
theorem dX10_token_34 : decode mX10_token.2.1 34 = .ok (.aload_n 0, 1) := by decide +kernel
theorem dX10_token_35 : decode mX10_token.2.1 35 = .ok (.getfield 164, 3) := by decide +kernel
theorem dX10_token_38 : decode mX10_token.2.1 38 = .ok (.putfield 174, 3) := by decide +kernel
theorem dX10_token_41 : decode mX10_token.2.1 41 = .ok (.aload_n 0, 1) := by decide +kernel
theorem dX10_token_42 : decode mX10_token.2.1 42 = .ok (.iconst 0, 1) := by decide +kernel
theorem dX10_token_43 : decode mX10_token.2.1 43 = .ok (.invokevirtual 170, 3) := by decide +kernel
theorem dX10_token_46 : decode mX10_token.2.1 46 = .ok (.istore_n 1, 1) := by decide +kernel
theorem dX10_token_47 : decode mX10_token.2.1 47 = .ok (.iconst 0, 1) := by decide +kernel
theorem dX10_token_48 : decode mX10_token.2.1 48 = .ok (.istore_n 2, 1) := by decide +kernel
theorem dX10_token_49 : decode mX10_token.2.1 49 = .ok (.aload_n 0, 1) := by decide +kernel
theorem dX10_token_50 : decode mX10_token.2.1 50 = .ok (.lconst 0, 1) := by decide +kernel
theorem dX10_token_51 : decode mX10_token.2.1 51 = .ok (.putfield 177, 3) := by decide +kernel
theorem dX10_token_54 : decode mX10_token.2.1 54 = .ok (.aload_n 0, 1) := by decide +kernel
theorem dX10_token_55 : decode mX10_token.2.1 55 = .ok (.iconst 0, 1) := by decide +kernel
theorem dX10_token_56 : decode mX10_token.2.1 56 = .ok (.putfield 181, 3) := by decide +kernel
theorem dX10_token_59 : decode mX10_token.2.1 59 = .ok (.iload_n 1, 1) := by decide +kernel
theorem dX10_token_60 : decode mX10_token.2.1 60 = .ok (.ifCond .ge 11, 3) := by decide +kernel
theorem dX10_token_63 : decode mX10_token.2.1 63 = .ok (.aload_n 0, 1) := by decide +kernel
theorem dX10_token_64 : decode mX10_token.2.1 64 = .ok (.iconst 0, 1) := by decide +kernel
theorem dX10_token_65 : decode mX10_token.2.1 65 = .ok (.putfield 184, 3) := by decide +kernel
theorem dX10_token_68 : decode mX10_token.2.1 68 = .ok (.goto 164, 3) := by decide +kernel
theorem dX10_token_71 : decode mX10_token.2.1 71 = .ok (.iload_n 1, 1) := by decide +kernel
theorem dX10_token_72 : decode mX10_token.2.1 72 = .ok (.invokestatic 187, 3) := by decide +kernel
theorem dX10_token_75 : decode mX10_token.2.1 75 = .ok (.ifCond .eq 62, 3) := by decide +kernel
theorem dX10_token_78 : decode mX10_token.2.1 78 = .ok (.aload_n 0, 1) := by decide +kernel
theorem dX10_token_79 : decode mX10_token.2.1 79 = .ok (.iload_n 2, 1) := by decide +kernel
theorem dX10_token_80 : decode mX10_token.2.1 80 = .ok (.invokevirtual 170, 3) := by decide +kernel
theorem dX10_token_83 : decode mX10_token.2.1 83 = .ok (.invokestatic 187, 3) := by decide +kernel
theorem dX10_token_86 : decode mX10_token.2.1 86 = .ok (.ifCond .eq 33, 3) := by decide +kernel
theorem dX10_token_89 : decode mX10_token.2.1 89 = .ok (.iload_n 2, 1) := by decide +kernel
theorem dX10_token_90 : decode mX10_token.2.1 90 = .ok (.bipush 8, 2) := by decide +kernel
theorem dX10_token_92 : decode mX10_token.2.1 92 = .ok (.if_icmp .ge 21, 3) := by decide +kernel
theorem dX10_token_95 : decode mX10_token.2.1 95 = .ok (.aload_n 0, 1) := by decide +kernel
theorem dX10_token_96 : decode mX10_token.2.1 96 = .ok (.aload_n 0, 1) := by decide +kernel
theorem dX10_token_97 : decode mX10_token.2.1 97 = .ok (.getfield 177, 3) := by decide +kernel
theorem dX10_token_100 : decode mX10_token.2.1 100 = .ok (.bipush 8, 2) := by decide +kernel
theorem dX10_token_102 : decode mX10_token.2.1 102 = .ok (.lshl, 1) := by decide +kernel
theorem dX10_token_103 : decode mX10_token.2.1 103 = .ok (.aload_n 0, 1) := by decide +kernel
theorem dX10_token_104 : decode mX10_token.2.1 104 = .ok (.iload_n 2, 1) := by decide +kernel
theorem dX10_token_105 : decode mX10_token.2.1 105 = .ok (.invokevirtual 170, 3) := by decide +kernel
theorem dX10_token_108 : decode mX10_token.2.1 108 = .ok (.i2l, 1) := by decide +kernel
theorem dX10_token_109 : decode mX10_token.2.1 109 = .ok (.lor, 1) := by decide +kernel
theorem dX10_token_110 : decode mX10_token.2.1 110 = .ok (.putfield 177, 3) := by decide +kernel
theorem dX10_token_113 : decode mX10_token.2.1 113 = .ok (.iinc 2 1, 3) := by decide +kernel
theorem dX10_token_116 : decode mX10_token.2.1 116 = .ok (.goto (-38), 3) := by decide +kernel
theorem dX10_token_119 : decode mX10_token.2.1 119 = .ok (.aload_n 0, 1) := by decide +kernel
theorem dX10_token_120 : decode mX10_token.2.1 120 = .ok (.iload_n 2, 1) := by decide +kernel
theorem dX10_token_121 : decode mX10_token.2.1 121 = .ok (.bipush 8, 2) := by decide +kernel
theorem dX10_token_123 : decode mX10_token.2.1 123 = .ok (.if_icmp .le 7, 3) := by decide +kernel
theorem dX10_token_126 : decode mX10_token.2.1 126 = .ok (.iconst 3, 1) := by decide +kernel
theorem dX10_token_127 : decode mX10_token.2.1 127 = .ok (.goto 4, 3) := by decide +kernel
theorem dX10_token_130 : decode mX10_token.2.1 130 = .ok (.iconst 1, 1) := by decide +kernel
theorem dX10_token_131 : decode mX10_token.2.1 131 = .ok (.putfield 184, 3) := by decide +kernel
theorem dX10_token_134 : decode mX10_token.2.1 134 = .ok (.goto 98, 3) := by decide +kernel
theorem dX10_token_137 : decode mX10_token.2.1 137 = .ok (.iload_n 1, 1) := by decide +kernel
theorem dX10_token_138 : decode mX10_token.2.1 138 = .ok (.invokestatic 191, 3) := by decide +kernel
theorem dX10_token_141 : decode mX10_token.2.1 141 = .ok (.ifCond .eq 73, 3) := by decide +kernel
theorem dX10_token_144 : decode mX10_token.2.1 144 = .ok (.aload_n 0, 1) := by decide +kernel
theorem dX10_token_145 : decode mX10_token.2.1 145 = .ok (.iload_n 2, 1) := by decide +kernel
theorem dX10_token_146 : decode mX10_token.2.1 146 = .ok (.invokevirtual 170, 3) := by decide +kernel
theorem dX10_token_149 : decode mX10_token.2.1 149 = .ok (.invokestatic 191, 3) := by decide +kernel
theorem dX10_token_152 : decode mX10_token.2.1 152 = .ok (.ifCond .eq 34, 3) := by decide +kernel
theorem dX10_token_155 : decode mX10_token.2.1 155 = .ok (.iload_n 2, 1) := by decide +kernel
theorem dX10_token_156 : decode mX10_token.2.1 156 = .ok (.iconst 4, 1) := by decide +kernel
theorem dX10_token_157 : decode mX10_token.2.1 157 = .ok (.if_icmp .ge 23, 3) := by decide +kernel
theorem dX10_token_160 : decode mX10_token.2.1 160 = .ok (.aload_n 0, 1) := by decide +kernel
theorem dX10_token_161 : decode mX10_token.2.1 161 = .ok (.bipush 10, 2) := by decide +kernel
theorem dX10_token_163 : decode mX10_token.2.1 163 = .ok (.aload_n 0, 1) := by decide +kernel
theorem dX10_token_164 : decode mX10_token.2.1 164 = .ok (.getfield 181, 3) := by decide +kernel
theorem dX10_token_167 : decode mX10_token.2.1 167 = .ok (.imul, 1) := by decide +kernel
theorem dX10_token_168 : decode mX10_token.2.1 168 = .ok (.aload_n 0, 1) := by decide +kernel
theorem dX10_token_169 : decode mX10_token.2.1 169 = .ok (.iload_n 2, 1) := by decide +kernel
theorem dX10_token_170 : decode mX10_token.2.1 170 = .ok (.invokevirtual 170, 3) := by decide +kernel
theorem dX10_token_173 : decode mX10_token.2.1 173 = .ok (.iadd, 1) := by decide +kernel
theorem dX10_token_174 : decode mX10_token.2.1 174 = .ok (.bipush 48, 2) := by decide +kernel
theorem dX10_token_176 : decode mX10_token.2.1 176 = .ok (.isub, 1) := by decide +kernel
theorem dX10_token_177 : decode mX10_token.2.1 177 = .ok (.putfield 181, 3) := by decide +kernel
theorem dX10_token_180 : decode mX10_token.2.1 180 = .ok (.iinc 2 1, 3) := by decide +kernel
theorem dX10_token_183 : decode mX10_token.2.1 183 = .ok (.goto (-39), 3) := by decide +kernel
theorem dX10_token_186 : decode mX10_token.2.1 186 = .ok (.aload_n 0, 1) := by decide +kernel
theorem dX10_token_187 : decode mX10_token.2.1 187 = .ok (.iload_n 2, 1) := by decide +kernel
theorem dX10_token_188 : decode mX10_token.2.1 188 = .ok (.iconst 4, 1) := by decide +kernel
theorem dX10_token_189 : decode mX10_token.2.1 189 = .ok (.if_icmp .gt 14, 3) := by decide +kernel
theorem dX10_token_192 : decode mX10_token.2.1 192 = .ok (.aload_n 0, 1) := by decide +kernel
theorem dX10_token_193 : decode mX10_token.2.1 193 = .ok (.iload_n 2, 1) := by decide +kernel
theorem dX10_token_194 : decode mX10_token.2.1 194 = .ok (.invokevirtual 170, 3) := by decide +kernel
theorem dX10_token_197 : decode mX10_token.2.1 197 = .ok (.invokestatic 187, 3) := by decide +kernel
theorem dX10_token_200 : decode mX10_token.2.1 200 = .ok (.ifCond .eq 7, 3) := by decide +kernel
theorem dX10_token_203 : decode mX10_token.2.1 203 = .ok (.iconst 3, 1) := by decide +kernel
theorem dX10_token_204 : decode mX10_token.2.1 204 = .ok (.goto 4, 3) := by decide +kernel
theorem dX10_token_207 : decode mX10_token.2.1 207 = .ok (.iconst 2, 1) := by decide +kernel
theorem dX10_token_208 : decode mX10_token.2.1 208 = .ok (.putfield 184, 3) := by decide +kernel
theorem dX10_token_211 : decode mX10_token.2.1 211 = .ok (.goto 21, 3) := by decide +kernel
theorem dX10_token_214 : decode mX10_token.2.1 214 = .ok (.iconst 1, 1) := by decide +kernel
theorem dX10_token_215 : decode mX10_token.2.1 215 = .ok (.istore_n 2, 1) := by decide +kernel
theorem dX10_token_216 : decode mX10_token.2.1 216 = .ok (.aload_n 0, 1) := by decide +kernel
theorem dX10_token_217 : decode mX10_token.2.1 217 = .ok (.iload_n 1, 1) := by decide +kernel
theorem dX10_token_218 : decode mX10_token.2.1 218 = .ok (.invokestatic 194, 3) := by decide +kernel
theorem dX10_token_221 : decode mX10_token.2.1 221 = .ok (.ifCond .eq 7, 3) := by decide +kernel
theorem dX10_token_224 : decode mX10_token.2.1 224 = .ok (.iload_n 1, 1) := by decide +kernel
theorem dX10_token_225 : decode mX10_token.2.1 225 = .ok (.goto 4, 3) := by decide +kernel
theorem dX10_token_228 : decode mX10_token.2.1 228 = .ok (.iconst 3, 1) := by decide +kernel
theorem dX10_token_229 : decode mX10_token.2.1 229 = .ok (.putfield 184, 3) := by decide +kernel
theorem dX10_token_232 : decode mX10_token.2.1 232 = .ok (.aload_n 0, 1) := by decide +kernel
theorem dX10_token_233 : decode mX10_token.2.1 233 = .ok (.getfield 184, 3) := by decide +kernel
theorem dX10_token_236 : decode mX10_token.2.1 236 = .ok (.iconst 3, 1) := by decide +kernel
theorem dX10_token_237 : decode mX10_token.2.1 237 = .ok (.if_icmp .eq 13, 3) := by decide +kernel
theorem dX10_token_240 : decode mX10_token.2.1 240 = .ok (.aload_n 0, 1) := by decide +kernel
theorem dX10_token_241 : decode mX10_token.2.1 241 = .ok (.dup, 1) := by decide +kernel
theorem dX10_token_242 : decode mX10_token.2.1 242 = .ok (.getfield 164, 3) := by decide +kernel
theorem dX10_token_245 : decode mX10_token.2.1 245 = .ok (.iload_n 2, 1) := by decide +kernel
theorem dX10_token_246 : decode mX10_token.2.1 246 = .ok (.iadd, 1) := by decide +kernel
theorem dX10_token_247 : decode mX10_token.2.1 247 = .ok (.putfield 164, 3) := by decide +kernel
theorem dX10_token_250 : decode mX10_token.2.1 250 = .ok (.return_, 1) := by decide +kernel
theorem bX10_token_0 {E : px_E} {d : Nat} {w : pw_W} {Q : Option Value → pw_W → Prop} {t : ct_T} (hw : w.1 = cs t)  
    (k1 : px_Call E (d + 1) 0 0 mX10_here [.ref 61, .int 0] w (fun v w' => px_W E mX10_token (d + 2) 0 0 5 [.ref 61, .null, .null] (v.toList ++ []) w' Q)) :
    px_W E mX10_token (d + 2) 0 0 0 [.ref 61, .null, .null] [] w Q := by
  refine px_aload_n dX10_token_0 rfl rfl ?_
  refine px_iconst dX10_token_1 ic_0 ?_
  exact px_callV (As := [.int 0]) (st := []) (rc := 0) (rs := 0) (mc := 0) (ms := 0) dX10_token_2 lk_10_170 (px_sh1 hw sh_61) rfl rfl (Nat.le_of_ble_eq_true rfl) k1
theorem eX10_token {E : px_E} {d : Nat} {w : pw_W} {Q : Option Value → pw_W → Prop} {t : ct_T} (hw : w.1 = cs t)  
    (k1 : px_Call E (d + 1) 0 0 mX10_here [.ref 61, .int 0] w (fun v w' => px_W E mX10_token (d + 2) 0 0 5 [.ref 61, .null, .null] (v.toList ++ []) w' Q)) :
    px_Call E (d + 2) 0 0 mX10_token [.ref 61] w Q :=
  px_enter (k := 2) (by decide) (Nat.le_of_ble_eq_true rfl) rfl (px_forget (bX10_token_0 hw k1) ⟨Or.inr rfl, Or.inl rfl, Or.inl rfl, trivial⟩)
theorem bX10_token_5 {E : px_E} {d : Nat} {w : pw_W} {Q : Option Value → pw_W → Prop} {t : ct_T} (hw : w.1 = cs t) {y0 : Int32}  
    (k1 : y0 = 32 → px_W E mX10_token (d + 2) 0 0 20 [.ref 61, .null, .null] [] w Q)
    (k2 : ¬ y0 = 32 → px_Call E (d + 1) 0 0 mX10_here [.ref 61, .int 0] w (fun v w' => px_W E mX10_token (d + 2) 0 0 15 [.ref 61, .null, .null] (v.toList ++ []) w' Q)) :
    px_W E mX10_token (d + 2) 0 0 5 [.ref 61, .null, .null] [.int y0] w Q := by
  refine px_bipush dX10_token_5 bp_32 ?_
  refine px_icmp_eq (tgt := 20) dX10_token_7 (by decide) (fun h1 => ?_) (fun h1 => ?_)
  ·
    exact (k1 h1)
  ·
    refine px_aload_n dX10_token_10 rfl rfl ?_
    refine px_iconst dX10_token_11 ic_0 ?_
    exact px_callV (As := [.int 0]) (st := []) (rc := 0) (rs := 0) (mc := 0) (ms := 0) dX10_token_12 lk_10_170 (px_sh1 hw sh_61) rfl rfl (Nat.le_of_ble_eq_true rfl) (k2 h1)
theorem bX10_token_15 {E : px_E} {d : Nat} {w : pw_W} {Q : Option Value → pw_W → Prop} {t : ct_T} (hw : w.1 = cs t) {y0 : Int32}  
    (k1 : ¬ y0 = 10 → px_Call E (d + 1) 0 0 mX10_here [.ref 61, .int 0] (pw_sI w 61 7 (pw_I w 61 4)) (fun v w' => px_W E mX10_token (d + 2) 0 0 46 [.ref 61, .null, .null] (v.toList ++ []) w' Q))
    (k2 : y0 = 10 → px_W E mX10_token (d + 2) 0 0 20 [.ref 61, .null, .null] [] w Q) :
    px_W E mX10_token (d + 2) 0 0 15 [.ref 61, .null, .null] [.int y0] w Q := by
  refine px_bipush dX10_token_15 bp_10 ?_
  refine px_icmp_ne (tgt := 33) dX10_token_17 (by decide) (fun h1 => ?_) (fun h1 => ?_)
  ·
    refine px_aload_n dX10_token_33 rfl rfl ?_
    refine px_aload_n dX10_token_34 rfl rfl ?_
    refine px_getI dX10_token_35 fr_10_164 rfl (px_sh1 hw sh_61) ?_
    refine px_putI dX10_token_38 fl_10_174 (Or.inl rfl) rfl (px_sh1 hw sh_61) rfl rfl (by omega) ?_
    refine px_aload_n dX10_token_41 rfl rfl ?_
    refine px_iconst dX10_token_42 ic_0 ?_
    exact px_callV (As := [.int 0]) (st := []) (rc := 0) (rs := 0) (mc := 0) (ms := 0) dX10_token_43 lk_10_170 (px_sh1 (hI hw) sh_61) rfl rfl (Nat.le_of_ble_eq_true rfl) (k1 h1)
  ·
    exact (k2 h1)
theorem bX10_token_20 {E : px_E} {d : Nat} {w : pw_W} {Q : Option Value → pw_W → Prop} {t : ct_T} (hw : w.1 = cs t)  
    (k1 : px_W E mX10_token (d + 2) 0 0 0 [.ref 61, .null, .null] [] (pw_sI w 61 4 ((pw_I w 61 4) + 1)) Q) :
    px_W E mX10_token (d + 2) 0 0 20 [.ref 61, .null, .null] [] w Q := by
  refine px_aload_n dX10_token_20 rfl rfl ?_
  refine px_dup dX10_token_21 rfl ?_
  refine px_getI dX10_token_22 fr_10_164 rfl (px_sh1 hw sh_61) ?_
  refine px_iconst dX10_token_25 ic_1 ?_
  refine px_iadd dX10_token_26 ?_
  refine px_putI dX10_token_27 fl_10_164 (Or.inl rfl) rfl (px_sh1 hw sh_61) rfl rfl (by omega) ?_
  refine px_goto (tgt := 0) dX10_token_30 (by decide) ?_
  exact k1
theorem bX10_token_46 {E : px_E} {d : Nat} {w : pw_W} {Q : Option Value → pw_W → Prop} {t : ct_T} (hw : w.1 = cs t) {y0 : Int32}  
    (k1 : 0 ≤ y0 → ¬ (pX10_isLetter y0) → ¬ (pX10_isDigit y0) → ¬ (pX10_isSign y0) → px_W E mX10_token (d + 2) 0 0 229 [.ref 61, .null, .int 1] [.int 3, .ref 61] (pw_sI (pw_sL w 61 9 0) 61 8 0) Q)
    (k2 : 0 ≤ y0 → ¬ (pX10_isLetter y0) → ¬ (pX10_isDigit y0) → (pX10_isSign y0) → px_W E mX10_token (d + 2) 0 0 229 [.ref 61, .null, .int 1] [.int y0, .ref 61] (pw_sI (pw_sL w 61 9 0) 61 8 0) Q)
    (k3 : 0 ≤ y0 → ¬ (pX10_isLetter y0) → (pX10_isDigit y0) → px_W E mX10_token (d + 2) 0 0 144 [.ref 61, .null, .int 0] [] (pw_sI (pw_sL w 61 9 0) 61 8 0) Q)
    (k4 : 0 ≤ y0 → (pX10_isLetter y0) → px_W E mX10_token (d + 2) 0 0 78 [.ref 61, .null, .int 0] [] (pw_sI (pw_sL w 61 9 0) 61 8 0) Q)
    (k5 : ¬ 0 ≤ y0 → px_W E mX10_token (d + 2) 0 0 232 [.ref 61, .null, .int 0] [] (pw_sI (pw_sI (pw_sL w 61 9 0) 61 8 0) 61 6 0) Q) :
    px_W E mX10_token (d + 2) 0 0 46 [.ref 61, .null, .null] [.int y0] w Q := by
  refine px_istore_n (ls' := [.ref 61, .int y0, .null]) dX10_token_46 rfl ⟨by decide, rfl⟩ rfl ?_
  refine px_iconst dX10_token_47 ic_0 ?_
  refine px_istore_n (ls' := [.ref 61, .int y0, .int 0]) dX10_token_48 rfl ⟨by decide, rfl⟩ rfl ?_
  refine px_aload_n dX10_token_49 rfl rfl ?_
  refine px_lconst (v := 0) dX10_token_50 (by decide) ?_
  refine px_putL dX10_token_51 fl_10_177 (Or.inl rfl) rfl (px_sh1 hw sh_61) (by omega) ?_
  refine px_aload_n dX10_token_54 rfl rfl ?_
  refine px_iconst dX10_token_55 ic_0 ?_
  refine px_putI dX10_token_56 fl_10_181 (Or.inl rfl) rfl (px_sh1 (hL hw) sh_61) rfl rfl (by omega) ?_
  refine px_iload_n dX10_token_59 rfl rfl ?_
  refine px_if_ge (tgt := 71) dX10_token_60 (by decide) (fun h1 => ?_) (fun h1 => ?_)
  ·
    refine px_iload_n dX10_token_71 rfl rfl ?_
    refine px_callS (As := [.int y0]) (st := []) (rc := 0) (rs := 0) (mc := 0) (ms := 0) dX10_token_72 lk_10_187 rfl rfl (Nat.le_of_ble_eq_true rfl) (sX10_isLetter ?_)
    show px_W E mX10_token (d + 2) 0 0 75 [.ref 61, .int y0, .int 0] [.int (jb (pX10_isLetter y0))] (pw_sI (pw_sL w 61 9 0) 61 8 0) Q
    refine px_jb_eq (tgt := 137) dX10_token_75 (by decide) (fun h2 => ?_) (fun h2 => ?_)
    ·
      refine px_iload_n dX10_token_137 rfl rfl ?_
      refine px_callS (As := [.int y0]) (st := []) (rc := 0) (rs := 0) (mc := 0) (ms := 0) dX10_token_138 lk_10_191 rfl rfl (Nat.le_of_ble_eq_true rfl) (sX10_isDigit ?_)
      show px_W E mX10_token (d + 2) 0 0 141 [.ref 61, .int y0, .int 0] [.int (jb (pX10_isDigit y0))] (pw_sI (pw_sL w 61 9 0) 61 8 0) Q
      refine px_jb_eq (tgt := 214) dX10_token_141 (by decide) (fun h3 => ?_) (fun h3 => ?_)
      ·
        refine px_iconst dX10_token_214 ic_1 ?_
        refine px_istore_n (ls' := [.ref 61, .int y0, .int 1]) dX10_token_215 rfl ⟨by decide, rfl⟩ rfl ?_
        refine px_aload_n dX10_token_216 rfl rfl ?_
        refine px_iload_n dX10_token_217 rfl rfl ?_
        refine px_callS (As := [.int y0]) (st := [.ref 61]) (rc := 0) (rs := 0) (mc := 0) (ms := 0) dX10_token_218 lk_10_194 rfl rfl (Nat.le_of_ble_eq_true rfl) (sX10_isSign ?_)
        show px_W E mX10_token (d + 2) 0 0 221 [.ref 61, .int y0, .int 1] [.int (jb (pX10_isSign y0)), .ref 61] (pw_sI (pw_sL w 61 9 0) 61 8 0) Q
        refine px_jb_eq (tgt := 228) dX10_token_221 (by decide) (fun h4 => ?_) (fun h4 => ?_)
        ·
          refine px_iconst dX10_token_228 ic_3 ?_
          exact px_forget (k1 h1 h2 h3 h4) ⟨Or.inr rfl, Or.inl rfl, Or.inr rfl, trivial⟩
        ·
          refine px_iload_n dX10_token_224 rfl rfl ?_
          refine px_goto (tgt := 229) dX10_token_225 (by decide) ?_
          exact px_forget (k2 h1 h2 h3 h4) ⟨Or.inr rfl, Or.inl rfl, Or.inr rfl, trivial⟩
      ·
        exact px_forget (k3 h1 h2 h3) ⟨Or.inr rfl, Or.inl rfl, Or.inr rfl, trivial⟩
    ·
      exact px_forget (k4 h1 h2) ⟨Or.inr rfl, Or.inl rfl, Or.inr rfl, trivial⟩
  ·
    refine px_aload_n dX10_token_63 rfl rfl ?_
    refine px_iconst dX10_token_64 ic_0 ?_
    refine px_putI dX10_token_65 fl_10_184 (Or.inl rfl) rfl (px_sh1 (hI (hL hw)) sh_61) rfl rfl (by omega) ?_
    refine px_goto (tgt := 232) dX10_token_68 (by decide) ?_
    exact px_forget (k5 h1) ⟨Or.inr rfl, Or.inl rfl, Or.inr rfl, trivial⟩
theorem bX10_token_78 {E : px_E} {d : Nat} {w : pw_W} {Q : Option Value → pw_W → Prop} {t : ct_T} (hw : w.1 = cs t) {x2 : Int32}  
    (k1 : px_Call E (d + 1) 0 0 mX10_here [.ref 61, .int x2] w (fun v w' => px_W E mX10_token (d + 2) 0 0 83 [.ref 61, .null, .int x2] (v.toList ++ []) w' Q)) :
    px_W E mX10_token (d + 2) 0 0 78 [.ref 61, .null, .int x2] [] w Q := by
  refine px_aload_n dX10_token_78 rfl rfl ?_
  refine px_iload_n dX10_token_79 rfl rfl ?_
  exact px_callV (As := [.int x2]) (st := []) (rc := 0) (rs := 0) (mc := 0) (ms := 0) dX10_token_80 lk_10_170 (px_sh1 hw sh_61) rfl rfl (Nat.le_of_ble_eq_true rfl) k1
theorem bX10_token_83 {E : px_E} {d : Nat} {w : pw_W} {Q : Option Value → pw_W → Prop} {t : ct_T} (hw : w.1 = cs t) {x2 y0 : Int32}  
    (k1 : ¬ (pX10_isLetter y0) → x2 ≤ 8 → px_W E mX10_token (d + 2) 0 0 131 [.ref 61, .null, .int x2] [.int 1, .ref 61] w Q)
    (k2 : ¬ (pX10_isLetter y0) → ¬ x2 ≤ 8 → px_W E mX10_token (d + 2) 0 0 131 [.ref 61, .null, .int x2] [.int 3, .ref 61] w Q)
    (k3 : (pX10_isLetter y0) → 8 ≤ x2 → px_W E mX10_token (d + 2) 0 0 113 [.ref 61, .null, .int x2] [] w Q)
    (k4 : (pX10_isLetter y0) → ¬ 8 ≤ x2 → px_Call E (d + 1) 0 0 mX10_here [.ref 61, .int x2] w (fun v w' => px_W E mX10_token (d + 2) 0 0 108 [.ref 61, .null, .int x2] (v.toList ++ [.long (js_lshl (pw_L w 61 9) 8), .ref 61]) w' Q)) :
    px_W E mX10_token (d + 2) 0 0 83 [.ref 61, .null, .int x2] [.int y0] w Q := by
  refine px_callS (As := [.int y0]) (st := []) (rc := 0) (rs := 0) (mc := 0) (ms := 0) dX10_token_83 lk_10_187 rfl rfl (Nat.le_of_ble_eq_true rfl) (sX10_isLetter ?_)
  show px_W E mX10_token (d + 2) 0 0 86 [.ref 61, .null, .int x2] [.int (jb (pX10_isLetter y0))] w Q
  refine px_jb_eq (tgt := 119) dX10_token_86 (by decide) (fun h1 => ?_) (fun h1 => ?_)
  ·
    refine px_aload_n dX10_token_119 rfl rfl ?_
    refine px_iload_n dX10_token_120 rfl rfl ?_
    refine px_bipush dX10_token_121 bp_8 ?_
    refine px_icmp_le (tgt := 130) dX10_token_123 (by decide) (fun h2 => ?_) (fun h2 => ?_)
    ·
      refine px_iconst dX10_token_130 ic_1 ?_
      exact (k1 h1 h2)
    ·
      refine px_iconst dX10_token_126 ic_3 ?_
      refine px_goto (tgt := 131) dX10_token_127 (by decide) ?_
      exact (k2 h1 h2)
  ·
    refine px_iload_n dX10_token_89 rfl rfl ?_
    refine px_bipush dX10_token_90 bp_8 ?_
    refine px_icmp_ge (tgt := 113) dX10_token_92 (by decide) (fun h3 => ?_) (fun h3 => ?_)
    ·
      exact (k3 h1 h3)
    ·
      refine px_aload_n dX10_token_95 rfl rfl ?_
      refine px_aload_n dX10_token_96 rfl rfl ?_
      refine px_getL dX10_token_97 fr_10_177 rfl (px_sh1 hw sh_61) ?_
      refine px_bipush dX10_token_100 bp_8 ?_
      refine px_lshl dX10_token_102 ?_
      refine px_aload_n dX10_token_103 rfl rfl ?_
      refine px_iload_n dX10_token_104 rfl rfl ?_
      exact px_callV (As := [.int x2]) (st := [.long (js_lshl (pw_L w 61 9) 8), .ref 61]) (rc := 0) (rs := 0) (mc := 0) (ms := 0) dX10_token_105 lk_10_170 (px_sh1 hw sh_61) rfl rfl (Nat.le_of_ble_eq_true rfl) (k4 h1 h3)
theorem bX10_token_108 {E : px_E} {d : Nat} {w : pw_W} {Q : Option Value → pw_W → Prop} {t : ct_T} (hw : w.1 = cs t) {x2 y2 : Int32} {z1 : Int64}  
    (k1 : px_W E mX10_token (d + 2) 0 0 113 [.ref 61, .null, .int x2] [] (pw_sL w 61 9 (z1 ||| y2.toInt64)) Q) :
    px_W E mX10_token (d + 2) 0 0 108 [.ref 61, .null, .int x2] [.int y2, .long z1, .ref 61] w Q := by
  refine px_i2l dX10_token_108 ?_
  refine px_lor dX10_token_109 ?_
  refine px_putL dX10_token_110 fl_10_177 (Or.inl rfl) rfl (px_sh1 hw sh_61) (by omega) ?_
  exact k1
theorem bX10_token_113 {E : px_E} {d : Nat} {w : pw_W} {Q : Option Value → pw_W → Prop} {t : ct_T} (hw : w.1 = cs t) {x2 : Int32}  
    (k1 : px_W E mX10_token (d + 2) 0 0 78 [.ref 61, .null, .int (x2 + 1)] [] w Q) :
    px_W E mX10_token (d + 2) 0 0 113 [.ref 61, .null, .int x2] [] w Q := by
  refine px_iinc (ls' := [.ref 61, .null, .int (x2 + 1)]) dX10_token_113 ⟨by decide, rfl⟩ rfl rfl rfl ?_
  refine px_goto (tgt := 78) dX10_token_116 (by decide) ?_
  exact k1
theorem bX10_token_131 {E : px_E} {d : Nat} {w : pw_W} {Q : Option Value → pw_W → Prop} {t : ct_T} (hw : w.1 = cs t) {x2 y1 : Int32}  
    (k1 : px_W E mX10_token (d + 2) 0 0 232 [.ref 61, .null, .int x2] [] (pw_sI w 61 6 y1) Q) :
    px_W E mX10_token (d + 2) 0 0 131 [.ref 61, .null, .int x2] [.int y1, .ref 61] w Q := by
  refine px_putI dX10_token_131 fl_10_184 (Or.inl rfl) rfl (px_sh1 hw sh_61) rfl rfl (by omega) ?_
  refine px_goto (tgt := 232) dX10_token_134 (by decide) ?_
  exact k1
theorem bX10_token_144 {E : px_E} {d : Nat} {w : pw_W} {Q : Option Value → pw_W → Prop} {t : ct_T} (hw : w.1 = cs t) {x2 : Int32}  
    (k1 : px_Call E (d + 1) 0 0 mX10_here [.ref 61, .int x2] w (fun v w' => px_W E mX10_token (d + 2) 0 0 149 [.ref 61, .null, .int x2] (v.toList ++ []) w' Q)) :
    px_W E mX10_token (d + 2) 0 0 144 [.ref 61, .null, .int x2] [] w Q := by
  refine px_aload_n dX10_token_144 rfl rfl ?_
  refine px_iload_n dX10_token_145 rfl rfl ?_
  exact px_callV (As := [.int x2]) (st := []) (rc := 0) (rs := 0) (mc := 0) (ms := 0) dX10_token_146 lk_10_170 (px_sh1 hw sh_61) rfl rfl (Nat.le_of_ble_eq_true rfl) k1
theorem bX10_token_149 {E : px_E} {d : Nat} {w : pw_W} {Q : Option Value → pw_W → Prop} {t : ct_T} (hw : w.1 = cs t) {x2 y0 : Int32}  
    (k1 : ¬ (pX10_isDigit y0) → 4 < x2 → px_W E mX10_token (d + 2) 0 0 203 [.ref 61, .null, .int x2] [.ref 61] w Q)
    (k2 : ¬ (pX10_isDigit y0) → ¬ 4 < x2 → px_Call E (d + 1) 0 0 mX10_here [.ref 61, .int x2] w (fun v w' => px_W E mX10_token (d + 2) 0 0 197 [.ref 61, .null, .int x2] (v.toList ++ [.ref 61]) w' Q))
    (k3 : (pX10_isDigit y0) → 4 ≤ x2 → px_W E mX10_token (d + 2) 0 0 180 [.ref 61, .null, .int x2] [] w Q)
    (k4 : (pX10_isDigit y0) → ¬ 4 ≤ x2 → px_Call E (d + 1) 0 0 mX10_here [.ref 61, .int x2] w (fun v w' => px_W E mX10_token (d + 2) 0 0 173 [.ref 61, .null, .int x2] (v.toList ++ [.int (10 * (pw_I w 61 8)), .ref 61]) w' Q)) :
    px_W E mX10_token (d + 2) 0 0 149 [.ref 61, .null, .int x2] [.int y0] w Q := by
  refine px_callS (As := [.int y0]) (st := []) (rc := 0) (rs := 0) (mc := 0) (ms := 0) dX10_token_149 lk_10_191 rfl rfl (Nat.le_of_ble_eq_true rfl) (sX10_isDigit ?_)
  show px_W E mX10_token (d + 2) 0 0 152 [.ref 61, .null, .int x2] [.int (jb (pX10_isDigit y0))] w Q
  refine px_jb_eq (tgt := 186) dX10_token_152 (by decide) (fun h1 => ?_) (fun h1 => ?_)
  ·
    refine px_aload_n dX10_token_186 rfl rfl ?_
    refine px_iload_n dX10_token_187 rfl rfl ?_
    refine px_iconst dX10_token_188 ic_4 ?_
    refine px_icmp_gt (tgt := 203) dX10_token_189 (by decide) (fun h2 => ?_) (fun h2 => ?_)
    ·
      exact (k1 h1 h2)
    ·
      refine px_aload_n dX10_token_192 rfl rfl ?_
      refine px_iload_n dX10_token_193 rfl rfl ?_
      exact px_callV (As := [.int x2]) (st := [.ref 61]) (rc := 0) (rs := 0) (mc := 0) (ms := 0) dX10_token_194 lk_10_170 (px_sh1 hw sh_61) rfl rfl (Nat.le_of_ble_eq_true rfl) (k2 h1 h2)
  ·
    refine px_iload_n dX10_token_155 rfl rfl ?_
    refine px_iconst dX10_token_156 ic_4 ?_
    refine px_icmp_ge (tgt := 180) dX10_token_157 (by decide) (fun h3 => ?_) (fun h3 => ?_)
    ·
      exact (k3 h1 h3)
    ·
      refine px_aload_n dX10_token_160 rfl rfl ?_
      refine px_bipush dX10_token_161 bp_10 ?_
      refine px_aload_n dX10_token_163 rfl rfl ?_
      refine px_getI dX10_token_164 fr_10_181 rfl (px_sh1 hw sh_61) ?_
      refine px_imul dX10_token_167 ?_
      refine px_aload_n dX10_token_168 rfl rfl ?_
      refine px_iload_n dX10_token_169 rfl rfl ?_
      exact px_callV (As := [.int x2]) (st := [.int (10 * (pw_I w 61 8)), .ref 61]) (rc := 0) (rs := 0) (mc := 0) (ms := 0) dX10_token_170 lk_10_170 (px_sh1 hw sh_61) rfl rfl (Nat.le_of_ble_eq_true rfl) (k4 h1 h3)
theorem bX10_token_173 {E : px_E} {d : Nat} {w : pw_W} {Q : Option Value → pw_W → Prop} {t : ct_T} (hw : w.1 = cs t) {x2 y1 y2 : Int32}  
    (k1 : px_W E mX10_token (d + 2) 0 0 180 [.ref 61, .null, .int x2] [] (pw_sI w 61 8 ((y1 + y2) - 48)) Q) :
    px_W E mX10_token (d + 2) 0 0 173 [.ref 61, .null, .int x2] [.int y2, .int y1, .ref 61] w Q := by
  refine px_iadd dX10_token_173 ?_
  refine px_bipush dX10_token_174 bp_48 ?_
  refine px_isub dX10_token_176 ?_
  refine px_putI dX10_token_177 fl_10_181 (Or.inl rfl) rfl (px_sh1 hw sh_61) rfl rfl (by omega) ?_
  exact k1
theorem bX10_token_180 {E : px_E} {d : Nat} {w : pw_W} {Q : Option Value → pw_W → Prop} {t : ct_T} (hw : w.1 = cs t) {x2 : Int32}  
    (k1 : px_W E mX10_token (d + 2) 0 0 144 [.ref 61, .null, .int (x2 + 1)] [] w Q) :
    px_W E mX10_token (d + 2) 0 0 180 [.ref 61, .null, .int x2] [] w Q := by
  refine px_iinc (ls' := [.ref 61, .null, .int (x2 + 1)]) dX10_token_180 ⟨by decide, rfl⟩ rfl rfl rfl ?_
  refine px_goto (tgt := 144) dX10_token_183 (by decide) ?_
  exact k1
theorem bX10_token_197 {E : px_E} {d : Nat} {w : pw_W} {Q : Option Value → pw_W → Prop} {t : ct_T} (hw : w.1 = cs t) {x2 y1 : Int32}  
    (k1 : ¬ (pX10_isLetter y1) → px_W E mX10_token (d + 2) 0 0 208 [.ref 61, .null, .int x2] [.int 2, .ref 61] w Q)
    (k2 : (pX10_isLetter y1) → px_W E mX10_token (d + 2) 0 0 203 [.ref 61, .null, .int x2] [.ref 61] w Q) :
    px_W E mX10_token (d + 2) 0 0 197 [.ref 61, .null, .int x2] [.int y1, .ref 61] w Q := by
  refine px_callS (As := [.int y1]) (st := [.ref 61]) (rc := 0) (rs := 0) (mc := 0) (ms := 0) dX10_token_197 lk_10_187 rfl rfl (Nat.le_of_ble_eq_true rfl) (sX10_isLetter ?_)
  show px_W E mX10_token (d + 2) 0 0 200 [.ref 61, .null, .int x2] [.int (jb (pX10_isLetter y1)), .ref 61] w Q
  refine px_jb_eq (tgt := 207) dX10_token_200 (by decide) (fun h1 => ?_) (fun h1 => ?_)
  ·
    refine px_iconst dX10_token_207 ic_2 ?_
    exact (k1 h1)
  ·
    exact (k2 h1)
theorem bX10_token_203 {E : px_E} {d : Nat} {w : pw_W} {Q : Option Value → pw_W → Prop} {t : ct_T} (hw : w.1 = cs t) {x2 : Int32}  
    (k1 : px_W E mX10_token (d + 2) 0 0 208 [.ref 61, .null, .int x2] [.int 3, .ref 61] w Q) :
    px_W E mX10_token (d + 2) 0 0 203 [.ref 61, .null, .int x2] [.ref 61] w Q := by
  refine px_iconst dX10_token_203 ic_3 ?_
  refine px_goto (tgt := 208) dX10_token_204 (by decide) ?_
  exact k1
theorem bX10_token_208 {E : px_E} {d : Nat} {w : pw_W} {Q : Option Value → pw_W → Prop} {t : ct_T} (hw : w.1 = cs t) {x2 y1 : Int32}  
    (k1 : px_W E mX10_token (d + 2) 0 0 232 [.ref 61, .null, .int x2] [] (pw_sI w 61 6 y1) Q) :
    px_W E mX10_token (d + 2) 0 0 208 [.ref 61, .null, .int x2] [.int y1, .ref 61] w Q := by
  refine px_putI dX10_token_208 fl_10_184 (Or.inl rfl) rfl (px_sh1 hw sh_61) rfl rfl (by omega) ?_
  refine px_goto (tgt := 232) dX10_token_211 (by decide) ?_
  exact k1
theorem bX10_token_229 {E : px_E} {d : Nat} {w : pw_W} {Q : Option Value → pw_W → Prop} {t : ct_T} (hw : w.1 = cs t) {x2 y1 : Int32}  
    (k1 : px_W E mX10_token (d + 2) 0 0 232 [.ref 61, .null, .int x2] [] (pw_sI w 61 6 y1) Q) :
    px_W E mX10_token (d + 2) 0 0 229 [.ref 61, .null, .int x2] [.int y1, .ref 61] w Q := by
  refine px_putI dX10_token_229 fl_10_184 (Or.inl rfl) rfl (px_sh1 hw sh_61) rfl rfl (by omega) ?_
  exact k1
theorem bX10_token_232 {E : px_E} {d : Nat} {w : pw_W} {Q : Option Value → pw_W → Prop} {t : ct_T} (hw : w.1 = cs t) {x2 : Int32}  
    (k1 : (pw_I w 61 6) = 3 → px_W E mX10_token (d + 2) 0 0 250 [.null, .null, .null] [] w Q)
    (k2 : ¬ (pw_I w 61 6) = 3 → px_W E mX10_token (d + 2) 0 0 250 [.null, .null, .null] [] (pw_sI w 61 4 ((pw_I w 61 4) + x2)) Q) :
    px_W E mX10_token (d + 2) 0 0 232 [.ref 61, .null, .int x2] [] w Q := by
  refine px_aload_n dX10_token_232 rfl rfl ?_
  refine px_getI dX10_token_233 fr_10_184 rfl (px_sh1 hw sh_61) ?_
  refine px_iconst dX10_token_236 ic_3 ?_
  refine px_icmp_eq (tgt := 250) dX10_token_237 (by decide) (fun h1 => ?_) (fun h1 => ?_)
  ·
    exact px_forget (k1 h1) ⟨Or.inl rfl, Or.inl rfl, Or.inl rfl, trivial⟩
  ·
    refine px_aload_n dX10_token_240 rfl rfl ?_
    refine px_dup dX10_token_241 rfl ?_
    refine px_getI dX10_token_242 fr_10_164 rfl (px_sh1 hw sh_61) ?_
    refine px_iload_n dX10_token_245 rfl rfl ?_
    refine px_iadd dX10_token_246 ?_
    refine px_putI dX10_token_247 fl_10_164 (Or.inl rfl) rfl (px_sh1 hw sh_61) rfl rfl (by omega) ?_
    exact px_forget (k2 h1) ⟨Or.inl rfl, Or.inl rfl, Or.inl rfl, trivial⟩
theorem bX10_token_250 {E : px_E} {d : Nat} {w : pw_W} {Q : Option Value → pw_W → Prop} {t : ct_T} (hw : w.1 = cs t)  
    (k1 : Q none w) :
    px_W E mX10_token (d + 2) 0 0 250 [.null, .null, .null] [] w Q := by
  exact px_return dX10_token_250 rfl k1
theorem dX10_wrong_0 : decode mX10_wrong.2.1 0 = .ok (.aload_n 0, 1) := by decide +kernel
theorem dX10_wrong_1 : decode mX10_wrong.2.1 1 = .ok (.getfield 197, 3) := by decide +kernel
theorem dX10_wrong_4 : decode mX10_wrong.2.1 4 = .ok (.ifCond .le 4, 3) := by decide +kernel
theorem dX10_wrong_7 : decode mX10_wrong.2.1 7 = .ok (.return_, 1) := by decide +kernel
theorem dX10_wrong_8 : decode mX10_wrong.2.1 8 = .ok (.aload_n 0, 1) := by decide +kernel
theorem dX10_wrong_9 : decode mX10_wrong.2.1 9 = .ok (.aload_n 0, 1) := by decide +kernel
theorem dX10_wrong_10 : decode mX10_wrong.2.1 10 = .ok (.getfield 184, 3) := by decide +kernel
theorem dX10_wrong_13 : decode mX10_wrong.2.1 13 = .ok (.iconst 3, 1) := by decide +kernel
theorem dX10_wrong_14 : decode mX10_wrong.2.1 14 = .ok (.if_icmp .ne 7, 3) := by decide +kernel
theorem dX10_wrong_17 : decode mX10_wrong.2.1 17 = .ok (.iconst 1, 1) := by decide +kernel
theorem dX10_wrong_18 : decode mX10_wrong.2.1 18 = .ok (.goto 4, 3) := by decide +kernel
theorem dX10_wrong_21 : decode mX10_wrong.2.1 21 = .ok (.iload_n 1, 1) := by decide +kernel
theorem dX10_wrong_22 : decode mX10_wrong.2.1 22 = .ok (.putfield 197, 3) := by decide +kernel
theorem dX10_wrong_25 : decode mX10_wrong.2.1 25 = .ok (.aload_n 0, 1) := by decide +kernel
theorem dX10_wrong_26 : decode mX10_wrong.2.1 26 = .ok (.aload_n 0, 1) := by decide +kernel
theorem dX10_wrong_27 : decode mX10_wrong.2.1 27 = .ok (.getfield 174, 3) := by decide +kernel
theorem dX10_wrong_30 : decode mX10_wrong.2.1 30 = .ok (.putfield 13, 3) := by decide +kernel
theorem dX10_wrong_33 : decode mX10_wrong.2.1 33 = .ok (.return_, 1) := by decide +kernel
theorem bX10_wrong_0 {E : px_E} {d : Nat} {w : pw_W} {Q : Option Value → pw_W → Prop} {t : ct_T} (hw : w.1 = cs t) {x1 : Int32}  
    (k1 : (pw_I w 61 2) ≤ 0 → ¬ (pw_I w 61 6) = 3 → px_W E mX10_wrong (d + 1) 0 0 22 [.ref 61, .null] [.int x1, .ref 61] w Q)
    (k2 : (pw_I w 61 2) ≤ 0 → (pw_I w 61 6) = 3 → px_W E mX10_wrong (d + 1) 0 0 22 [.ref 61, .null] [.int 1, .ref 61] w Q)
    (k3 : ¬ (pw_I w 61 2) ≤ 0 → Q none w) :
    px_W E mX10_wrong (d + 1) 0 0 0 [.ref 61, .int x1] [] w Q := by
  refine px_aload_n dX10_wrong_0 rfl rfl ?_
  refine px_getI dX10_wrong_1 fr_10_197 rfl (px_sh1 hw sh_61) ?_
  refine px_if_le (tgt := 8) dX10_wrong_4 (by decide) (fun h1 => ?_) (fun h1 => ?_)
  ·
    refine px_aload_n dX10_wrong_8 rfl rfl ?_
    refine px_aload_n dX10_wrong_9 rfl rfl ?_
    refine px_getI dX10_wrong_10 fr_10_184 rfl (px_sh1 hw sh_61) ?_
    refine px_iconst dX10_wrong_13 ic_3 ?_
    refine px_icmp_ne (tgt := 21) dX10_wrong_14 (by decide) (fun h2 => ?_) (fun h2 => ?_)
    ·
      refine px_iload_n dX10_wrong_21 rfl rfl ?_
      exact px_forget (k1 h1 h2) ⟨Or.inr rfl, Or.inl rfl, trivial⟩
    ·
      refine px_iconst dX10_wrong_17 ic_1 ?_
      refine px_goto (tgt := 22) dX10_wrong_18 (by decide) ?_
      exact px_forget (k2 h1 h2) ⟨Or.inr rfl, Or.inl rfl, trivial⟩
  ·
    exact px_return dX10_wrong_7 rfl (k3 h1)
theorem eX10_wrong {E : px_E} {d : Nat} {w : pw_W} {Q : Option Value → pw_W → Prop} {t : ct_T} (hw : w.1 = cs t) {x1 : Int32}  
    (k1 : (pw_I w 61 2) ≤ 0 → ¬ (pw_I w 61 6) = 3 → px_W E mX10_wrong (d + 1) 0 0 22 [.ref 61, .null] [.int x1, .ref 61] w Q)
    (k2 : (pw_I w 61 2) ≤ 0 → (pw_I w 61 6) = 3 → px_W E mX10_wrong (d + 1) 0 0 22 [.ref 61, .null] [.int 1, .ref 61] w Q)
    (k3 : ¬ (pw_I w 61 2) ≤ 0 → Q none w) :
    px_Call E (d + 1) 0 0 mX10_wrong [.ref 61, .int x1] w Q :=
  px_enter (k := 0) (by decide) (Nat.le_of_ble_eq_true rfl) rfl (px_forget (bX10_wrong_0 hw k1 k2 k3) ⟨Or.inr rfl, Or.inr rfl, trivial⟩)
theorem bX10_wrong_22 {E : px_E} {d : Nat} {w : pw_W} {Q : Option Value → pw_W → Prop} {t : ct_T} (hw : w.1 = cs t) {y1 : Int32}  
    (k1 : Q none (pw_sI (pw_sI w 61 2 y1) 61 3 (pw_I w 61 7))) :
    px_W E mX10_wrong (d + 1) 0 0 22 [.ref 61, .null] [.int y1, .ref 61] w Q := by
  refine px_putI dX10_wrong_22 fl_10_197 (Or.inl rfl) rfl (px_sh1 hw sh_61) rfl rfl (by omega) ?_
  refine px_aload_n dX10_wrong_25 rfl rfl ?_
  refine px_aload_n dX10_wrong_26 rfl rfl ?_
  refine px_getIv (v := (pw_I w 61 7)) dX10_wrong_27 fr_10_174 rfl (px_sh1 (hI hw) sh_61) rfl ?_
  refine px_putI dX10_wrong_30 fl_10_13 (Or.inl rfl) rfl (px_sh1 (hI hw) sh_61) rfl rfl (by omega) ?_
  exact px_return dX10_wrong_33 rfl k1
theorem dX10_want_0 : decode mX10_want.2.1 0 = .ok (.aload_n 0, 1) := by decide +kernel
theorem dX10_want_1 : decode mX10_want.2.1 1 = .ok (.getfield 197, 3) := by decide +kernel
theorem dX10_want_4 : decode mX10_want.2.1 4 = .ok (.ifCond .le 4, 3) := by decide +kernel
theorem dX10_want_7 : decode mX10_want.2.1 7 = .ok (.return_, 1) := by decide +kernel
theorem dX10_want_8 : decode mX10_want.2.1 8 = .ok (.aload_n 0, 1) := by decide +kernel
theorem dX10_want_9 : decode mX10_want.2.1 9 = .ok (.lload_n 1, 1) := by decide +kernel
theorem dX10_want_10 : decode mX10_want.2.1 10 = .ok (.invokevirtual 244, 3) := by decide +kernel
theorem dX10_want_13 : decode mX10_want.2.1 13 = .ok (.ifCond .ne 11, 3) := by decide +kernel
theorem dX10_want_16 : decode mX10_want.2.1 16 = .ok (.aload_n 0, 1) := by decide +kernel
theorem dX10_want_17 : decode mX10_want.2.1 17 = .ok (.iconst 2, 1) := by decide +kernel
theorem dX10_want_18 : decode mX10_want.2.1 18 = .ok (.invokevirtual 248, 3) := by decide +kernel
theorem dX10_want_21 : decode mX10_want.2.1 21 = .ok (.goto 7, 3) := by decide +kernel
theorem dX10_want_24 : decode mX10_want.2.1 24 = .ok (.aload_n 0, 1) := by decide +kernel
theorem dX10_want_25 : decode mX10_want.2.1 25 = .ok (.invokevirtual 251, 3) := by decide +kernel
theorem dX10_want_28 : decode mX10_want.2.1 28 = .ok (.return_, 1) := by decide +kernel
theorem bX10_want_0 {E : px_E} {d : Nat} {w : pw_W} {Q : Option Value → pw_W → Prop} {t : ct_T} (hw : w.1 = cs t) {l1 : Int64}  
    (k1 : (pw_I w 61 2) ≤ 0 → (pX10_isWord w l1) → px_Call E (d + 1) 0 0 mX10_token [.ref 61] w (fun v w' => px_W E mX10_want (d + 2) 0 0 28 [.null, .null, .null] (v.toList ++ []) w' Q))
    (k2 : (pw_I w 61 2) ≤ 0 → ¬ (pX10_isWord w l1) → px_Call E (d + 1) 0 0 mX10_wrong [.ref 61, .int 2] w (fun v w' => px_W E mX10_want (d + 2) 0 0 21 [.null, .null, .null] (v.toList ++ []) w' Q))
    (k3 : ¬ (pw_I w 61 2) ≤ 0 → Q none w) :
    px_W E mX10_want (d + 2) 0 0 0 [.ref 61, .long l1, .null] [] w Q := by
  refine px_aload_n dX10_want_0 rfl rfl ?_
  refine px_getI dX10_want_1 fr_10_197 rfl (px_sh1 hw sh_61) ?_
  refine px_if_le (tgt := 8) dX10_want_4 (by decide) (fun h1 => ?_) (fun h1 => ?_)
  ·
    refine px_aload_n dX10_want_8 rfl rfl ?_
    refine px_lload_n dX10_want_9 rfl rfl ?_
    refine px_forget (ls' := [.ref 61, .null, .null]) ?_ ⟨Or.inr rfl, Or.inl rfl, Or.inl rfl, trivial⟩
    refine px_callV (As := [.long l1]) (st := []) (rc := 0) (rs := 0) (mc := 0) (ms := 0) dX10_want_10 lk_10_244 (px_sh1 hw sh_61) rfl rfl (Nat.le_of_ble_eq_true rfl) (sX10_isWord (w := w) hw ?_)
    show px_W E mX10_want (d + 2) 0 0 13 [.ref 61, .null, .null] [.int (jb (pX10_isWord w l1))] w Q
    refine px_jb_ne (tgt := 24) dX10_want_13 (by decide) (fun h2 => ?_) (fun h2 => ?_)
    ·
      refine px_aload_n dX10_want_24 rfl rfl ?_
      refine px_forget (ls' := [.null, .null, .null]) ?_ ⟨Or.inl rfl, Or.inl rfl, Or.inl rfl, trivial⟩
      exact px_callV (As := []) (st := []) (rc := 0) (rs := 0) (mc := 0) (ms := 0) dX10_want_25 lk_10_251 (px_sh1 hw sh_61) rfl rfl (Nat.le_of_ble_eq_true rfl) (k1 h1 h2)
    ·
      refine px_aload_n dX10_want_16 rfl rfl ?_
      refine px_iconst dX10_want_17 ic_2 ?_
      refine px_forget (ls' := [.null, .null, .null]) ?_ ⟨Or.inl rfl, Or.inl rfl, Or.inl rfl, trivial⟩
      exact px_callV (As := [.int 2]) (st := []) (rc := 0) (rs := 0) (mc := 0) (ms := 0) dX10_want_18 lk_10_248 (px_sh1 hw sh_61) rfl rfl (Nat.le_of_ble_eq_true rfl) (k2 h1 h2)
  ·
    exact px_return dX10_want_7 rfl (k3 h1)
theorem eX10_want {E : px_E} {d : Nat} {w : pw_W} {Q : Option Value → pw_W → Prop} {t : ct_T} (hw : w.1 = cs t) {l1 : Int64}  
    (k1 : (pw_I w 61 2) ≤ 0 → (pX10_isWord w l1) → px_Call E (d + 1) 0 0 mX10_token [.ref 61] w (fun v w' => px_W E mX10_want (d + 2) 0 0 28 [.null, .null, .null] (v.toList ++ []) w' Q))
    (k2 : (pw_I w 61 2) ≤ 0 → ¬ (pX10_isWord w l1) → px_Call E (d + 1) 0 0 mX10_wrong [.ref 61, .int 2] w (fun v w' => px_W E mX10_want (d + 2) 0 0 21 [.null, .null, .null] (v.toList ++ []) w' Q))
    (k3 : ¬ (pw_I w 61 2) ≤ 0 → Q none w) :
    px_Call E (d + 2) 0 0 mX10_want [.ref 61, .long l1] w Q :=
  px_enter (k := 0) (by decide) (Nat.le_of_ble_eq_true rfl) rfl (px_forget (bX10_want_0 hw k1 k2 k3) ⟨Or.inr rfl, Or.inr rfl, Or.inl rfl, trivial⟩)
theorem bX10_want_21 {E : px_E} {d : Nat} {w : pw_W} {Q : Option Value → pw_W → Prop} {t : ct_T} (hw : w.1 = cs t)  
    (k1 : px_W E mX10_want (d + 2) 0 0 28 [.null, .null, .null] [] w Q) :
    px_W E mX10_want (d + 2) 0 0 21 [.null, .null, .null] [] w Q := by
  refine px_goto (tgt := 28) dX10_want_21 (by decide) ?_
  exact k1
theorem bX10_want_28 {E : px_E} {d : Nat} {w : pw_W} {Q : Option Value → pw_W → Prop} {t : ct_T} (hw : w.1 = cs t)  
    (k1 : Q none w) :
    px_W E mX10_want (d + 2) 0 0 28 [.null, .null, .null] [] w Q := by
  exact px_return dX10_want_28 rfl k1
theorem dX10_toldNumber_0 : decode mX10_toldNumber.2.1 0 = .ok (.aload_n 0, 1) := by decide +kernel
theorem dX10_toldNumber_1 : decode mX10_toldNumber.2.1 1 = .ok (.getfield 197, 3) := by decide +kernel
theorem dX10_toldNumber_4 : decode mX10_toldNumber.2.1 4 = .ok (.ifCond .le 5, 3) := by decide +kernel
theorem dX10_toldNumber_7 : decode mX10_toldNumber.2.1 7 = .ok (.iconst 0, 1) := by decide +kernel
theorem dX10_toldNumber_8 : decode mX10_toldNumber.2.1 8 = .ok (.ireturn, 1) := by decide +kernel
theorem dX10_toldNumber_9 : decode mX10_toldNumber.2.1 9 = .ok (.aload_n 0, 1) := by decide +kernel
theorem dX10_toldNumber_10 : decode mX10_toldNumber.2.1 10 = .ok (.getfield 184, 3) := by decide +kernel
theorem dX10_toldNumber_13 : decode mX10_toldNumber.2.1 13 = .ok (.iconst 2, 1) := by decide +kernel
theorem dX10_toldNumber_14 : decode mX10_toldNumber.2.1 14 = .ok (.if_icmp .eq 11, 3) := by decide +kernel
theorem dX10_toldNumber_17 : decode mX10_toldNumber.2.1 17 = .ok (.aload_n 0, 1) := by decide +kernel
theorem dX10_toldNumber_18 : decode mX10_toldNumber.2.1 18 = .ok (.iconst 2, 1) := by decide +kernel
theorem dX10_toldNumber_19 : decode mX10_toldNumber.2.1 19 = .ok (.invokevirtual 248, 3) := by decide +kernel
theorem dX10_toldNumber_22 : decode mX10_toldNumber.2.1 22 = .ok (.goto 24, 3) := by decide +kernel
theorem dX10_toldNumber_25 : decode mX10_toldNumber.2.1 25 = .ok (.aload_n 0, 1) := by decide +kernel
theorem dX10_toldNumber_26 : decode mX10_toldNumber.2.1 26 = .ok (.getfield 181, 3) := by decide +kernel
theorem dX10_toldNumber_29 : decode mX10_toldNumber.2.1 29 = .ok (.iload_n 1, 1) := by decide +kernel
theorem dX10_toldNumber_30 : decode mX10_toldNumber.2.1 30 = .ok (.if_icmp .lt 11, 3) := by decide +kernel
theorem dX10_toldNumber_33 : decode mX10_toldNumber.2.1 33 = .ok (.aload_n 0, 1) := by decide +kernel
theorem dX10_toldNumber_34 : decode mX10_toldNumber.2.1 34 = .ok (.getfield 181, 3) := by decide +kernel
theorem dX10_toldNumber_37 : decode mX10_toldNumber.2.1 37 = .ok (.iload_n 2, 1) := by decide +kernel
theorem dX10_toldNumber_38 : decode mX10_toldNumber.2.1 38 = .ok (.if_icmp .le 8, 3) := by decide +kernel
theorem dX10_toldNumber_41 : decode mX10_toldNumber.2.1 41 = .ok (.aload_n 0, 1) := by decide +kernel
theorem dX10_toldNumber_42 : decode mX10_toldNumber.2.1 42 = .ok (.iconst 4, 1) := by decide +kernel
theorem dX10_toldNumber_43 : decode mX10_toldNumber.2.1 43 = .ok (.invokevirtual 248, 3) := by decide +kernel
theorem dX10_toldNumber_46 : decode mX10_toldNumber.2.1 46 = .ok (.aload_n 0, 1) := by decide +kernel
theorem dX10_toldNumber_47 : decode mX10_toldNumber.2.1 47 = .ok (.getfield 181, 3) := by decide +kernel
theorem dX10_toldNumber_50 : decode mX10_toldNumber.2.1 50 = .ok (.istore_n 3, 1) := by decide +kernel
theorem dX10_toldNumber_51 : decode mX10_toldNumber.2.1 51 = .ok (.aload_n 0, 1) := by decide +kernel
theorem dX10_toldNumber_52 : decode mX10_toldNumber.2.1 52 = .ok (.getfield 197, 3) := by decide +kernel
theorem dX10_toldNumber_55 : decode mX10_toldNumber.2.1 55 = .ok (.ifCond .ne 7, 3) := by decide +kernel
theorem dX10_toldNumber_58 : decode mX10_toldNumber.2.1 58 = .ok (.aload_n 0, 1) := by decide +kernel
theorem dX10_toldNumber_59 : decode mX10_toldNumber.2.1 59 = .ok (.invokevirtual 251, 3) := by decide +kernel
theorem dX10_toldNumber_62 : decode mX10_toldNumber.2.1 62 = .ok (.iload_n 3, 1) := by decide +kernel
theorem dX10_toldNumber_63 : decode mX10_toldNumber.2.1 63 = .ok (.ireturn, 1) := by decide +kernel
theorem bX10_toldNumber_0 {E : px_E} {d : Nat} {w : pw_W} {Q : Option Value → pw_W → Prop} {t : ct_T} (hw : w.1 = cs t) {x1 x2 : Int32}  
    (k1 : (pw_I w 61 2) ≤ 0 → (pw_I w 61 6) = 2 → (pw_I w 61 8) < x1 → px_W E mX10_toldNumber (d + 1) 0 0 41 [.ref 61, .null, .null, .null] [] w Q)
    (k2 : (pw_I w 61 2) ≤ 0 → (pw_I w 61 6) = 2 → ¬ (pw_I w 61 8) < x1 → (pw_I w 61 8) ≤ x2 → px_W E mX10_toldNumber (d + 1) 0 0 46 [.ref 61, .null, .null, .null] [] w Q)
    (k3 : (pw_I w 61 2) ≤ 0 → (pw_I w 61 6) = 2 → ¬ (pw_I w 61 8) < x1 → ¬ (pw_I w 61 8) ≤ x2 → px_W E mX10_toldNumber (d + 1) 0 0 41 [.ref 61, .null, .null, .null] [] w Q)
    (k4 : (pw_I w 61 2) ≤ 0 → ¬ (pw_I w 61 6) = 2 → px_Call E d 0 0 mX10_wrong [.ref 61, .int 2] w (fun v w' => px_W E mX10_toldNumber (d + 1) 0 0 22 [.ref 61, .null, .null, .null] (v.toList ++ []) w' Q))
    (k5 : ¬ (pw_I w 61 2) ≤ 0 → Q (some (.int 0)) w) :
    px_W E mX10_toldNumber (d + 1) 0 0 0 [.ref 61, .int x1, .int x2, .null] [] w Q := by
  refine px_aload_n dX10_toldNumber_0 rfl rfl ?_
  refine px_getI dX10_toldNumber_1 fr_10_197 rfl (px_sh1 hw sh_61) ?_
  refine px_if_le (tgt := 9) dX10_toldNumber_4 (by decide) (fun h1 => ?_) (fun h1 => ?_)
  ·
    refine px_aload_n dX10_toldNumber_9 rfl rfl ?_
    refine px_getI dX10_toldNumber_10 fr_10_184 rfl (px_sh1 hw sh_61) ?_
    refine px_iconst dX10_toldNumber_13 ic_2 ?_
    refine px_icmp_eq (tgt := 25) dX10_toldNumber_14 (by decide) (fun h2 => ?_) (fun h2 => ?_)
    ·
      refine px_aload_n dX10_toldNumber_25 rfl rfl ?_
      refine px_getI dX10_toldNumber_26 fr_10_181 rfl (px_sh1 hw sh_61) ?_
      refine px_iload_n dX10_toldNumber_29 rfl rfl ?_
      refine px_icmp_lt (tgt := 41) dX10_toldNumber_30 (by decide) (fun h3 => ?_) (fun h3 => ?_)
      ·
        exact px_forget (k1 h1 h2 h3) ⟨Or.inr rfl, Or.inl rfl, Or.inl rfl, Or.inl rfl, trivial⟩
      ·
        refine px_aload_n dX10_toldNumber_33 rfl rfl ?_
        refine px_getI dX10_toldNumber_34 fr_10_181 rfl (px_sh1 hw sh_61) ?_
        refine px_iload_n dX10_toldNumber_37 rfl rfl ?_
        refine px_icmp_le (tgt := 46) dX10_toldNumber_38 (by decide) (fun h4 => ?_) (fun h4 => ?_)
        ·
          exact px_forget (k2 h1 h2 h3 h4) ⟨Or.inr rfl, Or.inl rfl, Or.inl rfl, Or.inl rfl, trivial⟩
        ·
          exact px_forget (k3 h1 h2 h3 h4) ⟨Or.inr rfl, Or.inl rfl, Or.inl rfl, Or.inl rfl, trivial⟩
    ·
      refine px_aload_n dX10_toldNumber_17 rfl rfl ?_
      refine px_iconst dX10_toldNumber_18 ic_2 ?_
      refine px_forget (ls' := [.ref 61, .null, .null, .null]) ?_ ⟨Or.inr rfl, Or.inl rfl, Or.inl rfl, Or.inl rfl, trivial⟩
      exact px_callV (As := [.int 2]) (st := []) (rc := 0) (rs := 0) (mc := 0) (ms := 0) dX10_toldNumber_19 lk_10_248 (px_sh1 hw sh_61) rfl rfl (Nat.le_of_ble_eq_true rfl) (k4 h1 h2)
  ·
    refine px_iconst dX10_toldNumber_7 ic_0 ?_
    exact px_ireturn dX10_toldNumber_8 rfl rfl (k5 h1)
theorem eX10_toldNumber {E : px_E} {d : Nat} {w : pw_W} {Q : Option Value → pw_W → Prop} {t : ct_T} (hw : w.1 = cs t) {x1 x2 : Int32}  
    (k1 : (pw_I w 61 2) ≤ 0 → (pw_I w 61 6) = 2 → (pw_I w 61 8) < x1 → px_W E mX10_toldNumber (d + 1) 0 0 41 [.ref 61, .null, .null, .null] [] w Q)
    (k2 : (pw_I w 61 2) ≤ 0 → (pw_I w 61 6) = 2 → ¬ (pw_I w 61 8) < x1 → (pw_I w 61 8) ≤ x2 → px_W E mX10_toldNumber (d + 1) 0 0 46 [.ref 61, .null, .null, .null] [] w Q)
    (k3 : (pw_I w 61 2) ≤ 0 → (pw_I w 61 6) = 2 → ¬ (pw_I w 61 8) < x1 → ¬ (pw_I w 61 8) ≤ x2 → px_W E mX10_toldNumber (d + 1) 0 0 41 [.ref 61, .null, .null, .null] [] w Q)
    (k4 : (pw_I w 61 2) ≤ 0 → ¬ (pw_I w 61 6) = 2 → px_Call E d 0 0 mX10_wrong [.ref 61, .int 2] w (fun v w' => px_W E mX10_toldNumber (d + 1) 0 0 22 [.ref 61, .null, .null, .null] (v.toList ++ []) w' Q))
    (k5 : ¬ (pw_I w 61 2) ≤ 0 → Q (some (.int 0)) w) :
    px_Call E (d + 1) 0 0 mX10_toldNumber [.ref 61, .int x1, .int x2] w Q :=
  px_enter (k := 1) (by decide) (Nat.le_of_ble_eq_true rfl) rfl (px_forget (bX10_toldNumber_0 hw k1 k2 k3 k4 k5) ⟨Or.inr rfl, Or.inr rfl, Or.inr rfl, Or.inl rfl, trivial⟩)
theorem bX10_toldNumber_22 {E : px_E} {d : Nat} {w : pw_W} {Q : Option Value → pw_W → Prop} {t : ct_T} (hw : w.1 = cs t)  
    (k1 : px_W E mX10_toldNumber (d + 1) 0 0 46 [.ref 61, .null, .null, .null] [] w Q) :
    px_W E mX10_toldNumber (d + 1) 0 0 22 [.ref 61, .null, .null, .null] [] w Q := by
  refine px_goto (tgt := 46) dX10_toldNumber_22 (by decide) ?_
  exact k1
theorem bX10_toldNumber_41 {E : px_E} {d : Nat} {w : pw_W} {Q : Option Value → pw_W → Prop} {t : ct_T} (hw : w.1 = cs t)  
    (k1 : px_Call E d 0 0 mX10_wrong [.ref 61, .int 4] w (fun v w' => px_W E mX10_toldNumber (d + 1) 0 0 46 [.ref 61, .null, .null, .null] (v.toList ++ []) w' Q)) :
    px_W E mX10_toldNumber (d + 1) 0 0 41 [.ref 61, .null, .null, .null] [] w Q := by
  refine px_aload_n dX10_toldNumber_41 rfl rfl ?_
  refine px_iconst dX10_toldNumber_42 ic_4 ?_
  exact px_callV (As := [.int 4]) (st := []) (rc := 0) (rs := 0) (mc := 0) (ms := 0) dX10_toldNumber_43 lk_10_248 (px_sh1 hw sh_61) rfl rfl (Nat.le_of_ble_eq_true rfl) k1
theorem bX10_toldNumber_46 {E : px_E} {d : Nat} {w : pw_W} {Q : Option Value → pw_W → Prop} {t : ct_T} (hw : w.1 = cs t)  
    (k1 : ¬ (pw_I w 61 2) = 0 → px_W E mX10_toldNumber (d + 1) 0 0 62 [.null, .null, .null, .int (pw_I w 61 8)] [] w Q)
    (k2 : (pw_I w 61 2) = 0 → px_Call E d 0 0 mX10_token [.ref 61] w (fun v w' => px_W E mX10_toldNumber (d + 1) 0 0 62 [.null, .null, .null, .int (pw_I w 61 8)] (v.toList ++ []) w' Q)) :
    px_W E mX10_toldNumber (d + 1) 0 0 46 [.ref 61, .null, .null, .null] [] w Q := by
  refine px_aload_n dX10_toldNumber_46 rfl rfl ?_
  refine px_getI dX10_toldNumber_47 fr_10_181 rfl (px_sh1 hw sh_61) ?_
  refine px_istore_n (ls' := [.ref 61, .null, .null, .int (pw_I w 61 8)]) dX10_toldNumber_50 rfl ⟨by decide, rfl⟩ rfl ?_
  refine px_aload_n dX10_toldNumber_51 rfl rfl ?_
  refine px_getI dX10_toldNumber_52 fr_10_197 rfl (px_sh1 hw sh_61) ?_
  refine px_if_ne (tgt := 62) dX10_toldNumber_55 (by decide) (fun h1 => ?_) (fun h1 => ?_)
  ·
    exact px_forget (k1 h1) ⟨Or.inl rfl, Or.inl rfl, Or.inl rfl, Or.inr rfl, trivial⟩
  ·
    refine px_aload_n dX10_toldNumber_58 rfl rfl ?_
    refine px_forget (ls' := [.null, .null, .null, .int (pw_I w 61 8)]) ?_ ⟨Or.inl rfl, Or.inl rfl, Or.inl rfl, Or.inr rfl, trivial⟩
    exact px_callV (As := []) (st := []) (rc := 0) (rs := 0) (mc := 0) (ms := 0) dX10_toldNumber_59 lk_10_251 (px_sh1 hw sh_61) rfl rfl (Nat.le_of_ble_eq_true rfl) (k2 h1)
theorem bX10_toldNumber_62 {E : px_E} {d : Nat} {w : pw_W} {Q : Option Value → pw_W → Prop} {t : ct_T} (hw : w.1 = cs t) {x3 : Int32}  
    (k1 : Q (some (.int x3)) w) :
    px_W E mX10_toldNumber (d + 1) 0 0 62 [.null, .null, .null, .int x3] [] w Q := by
  refine px_iload_n dX10_toldNumber_62 rfl rfl ?_
  exact px_ireturn dX10_toldNumber_63 rfl rfl k1
theorem dX10_told_0 : decode mX10_told.2.1 0 = .ok (.aload_n 0, 1) := by decide +kernel
theorem dX10_told_1 : decode mX10_told.2.1 1 = .ok (.lload_n 1, 1) := by decide +kernel
theorem dX10_told_2 : decode mX10_told.2.1 2 = .ok (.invokevirtual 254, 3) := by decide +kernel
theorem dX10_told_5 : decode mX10_told.2.1 5 = .ok (.aload_n 0, 1) := by decide +kernel
theorem dX10_told_6 : decode mX10_told.2.1 6 = .ok (.iload_n 3, 1) := by decide +kernel
theorem dX10_told_7 : decode mX10_told.2.1 7 = .ok (.iload 4, 2) := by decide +kernel
theorem dX10_told_9 : decode mX10_told.2.1 9 = .ok (.invokevirtual 258, 3) := by decide +kernel
theorem dX10_told_12 : decode mX10_told.2.1 12 = .ok (.ireturn, 1) := by decide +kernel
theorem bX10_told_0 {E : px_E} {d : Nat} {w : pw_W} {Q : Option Value → pw_W → Prop} {t : ct_T} (hw : w.1 = cs t) {x3 x4 : Int32} {l1 : Int64}  
    (k1 : px_Call E d 0 0 mX10_want [.ref 61, .long l1] w (fun v w' => px_W E mX10_told (d + 1) 0 0 5 [.ref 61, .null, .null, .int x3, .int x4] (v.toList ++ []) w' Q)) :
    px_W E mX10_told (d + 1) 0 0 0 [.ref 61, .long l1, .null, .int x3, .int x4] [] w Q := by
  refine px_aload_n dX10_told_0 rfl rfl ?_
  refine px_lload_n dX10_told_1 rfl rfl ?_
  refine px_forget (ls' := [.ref 61, .null, .null, .int x3, .int x4]) ?_ ⟨Or.inr rfl, Or.inl rfl, Or.inl rfl, Or.inr rfl, Or.inr rfl, trivial⟩
  exact px_callV (As := [.long l1]) (st := []) (rc := 0) (rs := 0) (mc := 0) (ms := 0) dX10_told_2 lk_10_254 (px_sh1 hw sh_61) rfl rfl (Nat.le_of_ble_eq_true rfl) k1
theorem eX10_told {E : px_E} {d : Nat} {w : pw_W} {Q : Option Value → pw_W → Prop} {t : ct_T} (hw : w.1 = cs t) {x3 x4 : Int32} {l1 : Int64}  
    (k1 : px_Call E d 0 0 mX10_want [.ref 61, .long l1] w (fun v w' => px_W E mX10_told (d + 1) 0 0 5 [.ref 61, .null, .null, .int x3, .int x4] (v.toList ++ []) w' Q)) :
    px_Call E (d + 1) 0 0 mX10_told [.ref 61, .long l1, .int x3, .int x4] w Q :=
  px_enter (k := 0) (by decide) (Nat.le_of_ble_eq_true rfl) rfl (px_forget (bX10_told_0 hw k1) ⟨Or.inr rfl, Or.inr rfl, Or.inl rfl, Or.inr rfl, Or.inr rfl, trivial⟩)
theorem bX10_told_5 {E : px_E} {d : Nat} {w : pw_W} {Q : Option Value → pw_W → Prop} {t : ct_T} (hw : w.1 = cs t) {x3 x4 : Int32}  
    (k1 : px_Call E d 0 0 mX10_toldNumber [.ref 61, .int x3, .int x4] w (fun v w' => px_W E mX10_told (d + 1) 0 0 12 [.null, .null, .null, .null, .null] (v.toList ++ []) w' Q)) :
    px_W E mX10_told (d + 1) 0 0 5 [.ref 61, .null, .null, .int x3, .int x4] [] w Q := by
  refine px_aload_n dX10_told_5 rfl rfl ?_
  refine px_iload_n dX10_told_6 rfl rfl ?_
  refine px_iload dX10_told_7 rfl ?_
  refine px_forget (ls' := [.null, .null, .null, .null, .null]) ?_ ⟨Or.inl rfl, Or.inl rfl, Or.inl rfl, Or.inl rfl, Or.inl rfl, trivial⟩
  exact px_callV (As := [.int x3, .int x4]) (st := []) (rc := 0) (rs := 0) (mc := 0) (ms := 0) dX10_told_9 lk_10_258 (px_sh1 hw sh_61) rfl rfl (Nat.le_of_ble_eq_true rfl) k1
theorem bX10_told_12 {E : px_E} {d : Nat} {w : pw_W} {Q : Option Value → pw_W → Prop} {t : ct_T} (hw : w.1 = cs t) {y0 : Int32}  
    (k1 : Q (some (.int y0)) w) :
    px_W E mX10_told (d + 1) 0 0 12 [.null, .null, .null, .null, .null] [.int y0] w Q := by
  exact px_ireturn dX10_told_12 rfl rfl k1
theorem dX10_mayTell_0 : decode mX10_mayTell.2.1 0 = .ok (.aload_n 0, 1) := by decide +kernel
theorem dX10_mayTell_1 : decode mX10_mayTell.2.1 1 = .ok (.getfield 197, 3) := by decide +kernel
theorem dX10_mayTell_4 : decode mX10_mayTell.2.1 4 = .ok (.ifCond .ne 21, 3) := by decide +kernel
theorem dX10_mayTell_7 : decode mX10_mayTell.2.1 7 = .ok (.aload_n 0, 1) := by decide +kernel
theorem dX10_mayTell_8 : decode mX10_mayTell.2.1 8 = .ok (.lload_n 1, 1) := by decide +kernel
theorem dX10_mayTell_9 : decode mX10_mayTell.2.1 9 = .ok (.invokevirtual 244, 3) := by decide +kernel
theorem dX10_mayTell_12 : decode mX10_mayTell.2.1 12 = .ok (.ifCond .eq 13, 3) := by decide +kernel
theorem dX10_mayTell_15 : decode mX10_mayTell.2.1 15 = .ok (.aload_n 0, 1) := by decide +kernel
theorem dX10_mayTell_16 : decode mX10_mayTell.2.1 16 = .ok (.lload_n 1, 1) := by decide +kernel
theorem dX10_mayTell_17 : decode mX10_mayTell.2.1 17 = .ok (.iconst 0, 1) := by decide +kernel
theorem dX10_mayTell_18 : decode mX10_mayTell.2.1 18 = .ok (.iload_n 3, 1) := by decide +kernel
theorem dX10_mayTell_19 : decode mX10_mayTell.2.1 19 = .ok (.invokevirtual 262, 3) := by decide +kernel
theorem dX10_mayTell_22 : decode mX10_mayTell.2.1 22 = .ok (.goto 4, 3) := by decide +kernel
theorem dX10_mayTell_25 : decode mX10_mayTell.2.1 25 = .ok (.iconst 0, 1) := by decide +kernel
theorem dX10_mayTell_26 : decode mX10_mayTell.2.1 26 = .ok (.ireturn, 1) := by decide +kernel
theorem bX10_mayTell_0 {E : px_E} {d : Nat} {w : pw_W} {Q : Option Value → pw_W → Prop} {t : ct_T} (hw : w.1 = cs t) {x3 : Int32} {l1 : Int64}  
    (k1 : ¬ (pw_I w 61 2) = 0 → px_W E mX10_mayTell (d + 2) 0 0 25 [.null, .null, .null, .null] [] w Q)
    (k2 : (pw_I w 61 2) = 0 → ¬ (pX10_isWord w l1) → px_W E mX10_mayTell (d + 2) 0 0 25 [.null, .null, .null, .null] [] w Q)
    (k3 : (pw_I w 61 2) = 0 → (pX10_isWord w l1) → px_Call E (d + 1) 0 0 mX10_told [.ref 61, .long l1, .int 0, .int x3] w (fun v w' => px_W E mX10_mayTell (d + 2) 0 0 22 [.null, .null, .null, .null] (v.toList ++ []) w' Q)) :
    px_W E mX10_mayTell (d + 2) 0 0 0 [.ref 61, .long l1, .null, .int x3] [] w Q := by
  refine px_aload_n dX10_mayTell_0 rfl rfl ?_
  refine px_getI dX10_mayTell_1 fr_10_197 rfl (px_sh1 hw sh_61) ?_
  refine px_if_ne (tgt := 25) dX10_mayTell_4 (by decide) (fun h1 => ?_) (fun h1 => ?_)
  ·
    exact px_forget (k1 h1) ⟨Or.inl rfl, Or.inl rfl, Or.inl rfl, Or.inl rfl, trivial⟩
  ·
    refine px_aload_n dX10_mayTell_7 rfl rfl ?_
    refine px_lload_n dX10_mayTell_8 rfl rfl ?_
    refine px_callV (As := [.long l1]) (st := []) (rc := 0) (rs := 0) (mc := 0) (ms := 0) dX10_mayTell_9 lk_10_244 (px_sh1 hw sh_61) rfl rfl (Nat.le_of_ble_eq_true rfl) (sX10_isWord (w := w) hw ?_)
    show px_W E mX10_mayTell (d + 2) 0 0 12 [.ref 61, .long l1, .null, .int x3] [.int (jb (pX10_isWord w l1))] w Q
    refine px_jb_eq (tgt := 25) dX10_mayTell_12 (by decide) (fun h2 => ?_) (fun h2 => ?_)
    ·
      exact px_forget (k2 h1 h2) ⟨Or.inl rfl, Or.inl rfl, Or.inl rfl, Or.inl rfl, trivial⟩
    ·
      refine px_aload_n dX10_mayTell_15 rfl rfl ?_
      refine px_lload_n dX10_mayTell_16 rfl rfl ?_
      refine px_iconst dX10_mayTell_17 ic_0 ?_
      refine px_iload_n dX10_mayTell_18 rfl rfl ?_
      refine px_forget (ls' := [.null, .null, .null, .null]) ?_ ⟨Or.inl rfl, Or.inl rfl, Or.inl rfl, Or.inl rfl, trivial⟩
      exact px_callV (As := [.long l1, .int 0, .int x3]) (st := []) (rc := 0) (rs := 0) (mc := 0) (ms := 0) dX10_mayTell_19 lk_10_262 (px_sh1 hw sh_61) rfl rfl (Nat.le_of_ble_eq_true rfl) (k3 h1 h2)
theorem eX10_mayTell {E : px_E} {d : Nat} {w : pw_W} {Q : Option Value → pw_W → Prop} {t : ct_T} (hw : w.1 = cs t) {x3 : Int32} {l1 : Int64}  
    (k1 : ¬ (pw_I w 61 2) = 0 → px_W E mX10_mayTell (d + 2) 0 0 25 [.null, .null, .null, .null] [] w Q)
    (k2 : (pw_I w 61 2) = 0 → ¬ (pX10_isWord w l1) → px_W E mX10_mayTell (d + 2) 0 0 25 [.null, .null, .null, .null] [] w Q)
    (k3 : (pw_I w 61 2) = 0 → (pX10_isWord w l1) → px_Call E (d + 1) 0 0 mX10_told [.ref 61, .long l1, .int 0, .int x3] w (fun v w' => px_W E mX10_mayTell (d + 2) 0 0 22 [.null, .null, .null, .null] (v.toList ++ []) w' Q)) :
    px_Call E (d + 2) 0 0 mX10_mayTell [.ref 61, .long l1, .int x3] w Q :=
  px_enter (k := 0) (by decide) (Nat.le_of_ble_eq_true rfl) rfl (px_forget (bX10_mayTell_0 hw k1 k2 k3) ⟨Or.inr rfl, Or.inr rfl, Or.inl rfl, Or.inr rfl, trivial⟩)
theorem bX10_mayTell_22 {E : px_E} {d : Nat} {w : pw_W} {Q : Option Value → pw_W → Prop} {t : ct_T} (hw : w.1 = cs t) {y0 : Int32}  
    (k1 : px_W E mX10_mayTell (d + 2) 0 0 26 [.null, .null, .null, .null] [.int y0] w Q) :
    px_W E mX10_mayTell (d + 2) 0 0 22 [.null, .null, .null, .null] [.int y0] w Q := by
  refine px_goto (tgt := 26) dX10_mayTell_22 (by decide) ?_
  exact k1
theorem bX10_mayTell_25 {E : px_E} {d : Nat} {w : pw_W} {Q : Option Value → pw_W → Prop} {t : ct_T} (hw : w.1 = cs t)  
    (k1 : px_W E mX10_mayTell (d + 2) 0 0 26 [.null, .null, .null, .null] [.int 0] w Q) :
    px_W E mX10_mayTell (d + 2) 0 0 25 [.null, .null, .null, .null] [] w Q := by
  refine px_iconst dX10_mayTell_25 ic_0 ?_
  exact k1
theorem bX10_mayTell_26 {E : px_E} {d : Nat} {w : pw_W} {Q : Option Value → pw_W → Prop} {t : ct_T} (hw : w.1 = cs t) {y0 : Int32}  
    (k1 : Q (some (.int y0)) w) :
    px_W E mX10_mayTell (d + 2) 0 0 26 [.null, .null, .null, .null] [.int y0] w Q := by
  exact px_ireturn dX10_mayTell_26 rfl rfl k1
theorem dX10_find_0 : decode mX10_find.2.1 0 = .ok (.iconst (-1), 1) := by decide +kernel
theorem dX10_find_1 : decode mX10_find.2.1 1 = .ok (.istore_n 3, 1) := by decide +kernel
theorem dX10_find_2 : decode mX10_find.2.1 2 = .ok (.iconst 0, 1) := by decide +kernel
theorem dX10_find_3 : decode mX10_find.2.1 3 = .ok (.istore 4, 2) := by decide +kernel
theorem dX10_find_5 : decode mX10_find.2.1 5 = .ok (.iload 4, 2) := by decide +kernel
theorem dX10_find_7 : decode mX10_find.2.1 7 = .ok (.iload_n 2, 1) := by decide +kernel
theorem dX10_find_8 : decode mX10_find.2.1 8 = .ok (.if_icmp .ge 33, 3) := by decide +kernel
theorem dX10_find_11 : decode mX10_find.2.1 11 = .ok (.aload_n 0, 1) := by decide +kernel
theorem dX10_find_12 : decode mX10_find.2.1 12 = .ok (.getfield 17, 3) := by decide +kernel
theorem dX10_find_15 : decode mX10_find.2.1 15 = .ok (.iload_n 1, 1) := by decide +kernel
theorem dX10_find_16 : decode mX10_find.2.1 16 = .ok (.iload 4, 2) := by decide +kernel
theorem dX10_find_18 : decode mX10_find.2.1 18 = .ok (.iadd, 1) := by decide +kernel
theorem dX10_find_19 : decode mX10_find.2.1 19 = .ok (.laload, 1) := by decide +kernel
theorem dX10_find_20 : decode mX10_find.2.1 20 = .ok (.aload_n 0, 1) := by decide +kernel
theorem dX10_find_21 : decode mX10_find.2.1 21 = .ok (.getfield 177, 3) := by decide +kernel
theorem dX10_find_24 : decode mX10_find.2.1 24 = .ok (.lcmp, 1) := by decide +kernel
theorem dX10_find_25 : decode mX10_find.2.1 25 = .ok (.ifCond .ne 8, 3) := by decide +kernel
theorem dX10_find_28 : decode mX10_find.2.1 28 = .ok (.iload 4, 2) := by decide +kernel
theorem dX10_find_30 : decode mX10_find.2.1 30 = .ok (.goto 4, 3) := by decide +kernel
theorem dX10_find_33 : decode mX10_find.2.1 33 = .ok (.iload_n 3, 1) := by decide +kernel
theorem dX10_find_34 : decode mX10_find.2.1 34 = .ok (.istore_n 3, 1) := by decide +kernel
theorem dX10_find_35 : decode mX10_find.2.1 35 = .ok (.iinc 4 1, 3) := by decide +kernel
theorem dX10_find_38 : decode mX10_find.2.1 38 = .ok (.goto (-33), 3) := by decide +kernel
theorem dX10_find_41 : decode mX10_find.2.1 41 = .ok (.iload_n 3, 1) := by decide +kernel
theorem dX10_find_42 : decode mX10_find.2.1 42 = .ok (.ireturn, 1) := by decide +kernel
theorem bX10_find_0 {E : px_E} {d : Nat} {w : pw_W} {Q : Option Value → pw_W → Prop} {t : ct_T} (hw : w.1 = cs t) {x1 x2 : Int32}  
    (k1 : px_W E mX10_find (d + 1) 0 0 5 [.ref 61, .int x1, .int x2, .int (-1), .int 0] [] w Q) :
    px_W E mX10_find (d + 1) 0 0 0 [.ref 61, .int x1, .int x2, .null, .null] [] w Q := by
  refine px_iconst dX10_find_0 ic_m1 ?_
  refine px_istore_n (ls' := [.ref 61, .int x1, .int x2, .int (-1), .null]) dX10_find_1 rfl ⟨by decide, rfl⟩ rfl ?_
  refine px_iconst dX10_find_2 ic_0 ?_
  refine px_istore (ls' := [.ref 61, .int x1, .int x2, .int (-1), .int 0]) dX10_find_3 ⟨by decide, rfl⟩ rfl ?_
  exact k1
theorem eX10_find {E : px_E} {d : Nat} {w : pw_W} {Q : Option Value → pw_W → Prop} {t : ct_T} (hw : w.1 = cs t) {x1 x2 : Int32}  
    (k1 : px_W E mX10_find (d + 1) 0 0 5 [.ref 61, .int x1, .int x2, .int (-1), .int 0] [] w Q) :
    px_Call E (d + 1) 0 0 mX10_find [.ref 61, .int x1, .int x2] w Q :=
  px_enter (k := 2) (by decide) (Nat.le_of_ble_eq_true rfl) rfl (px_forget (bX10_find_0 hw k1) ⟨Or.inr rfl, Or.inr rfl, Or.inr rfl, Or.inl rfl, Or.inl rfl, trivial⟩)
theorem bX10_find_5 {E : px_E} {d : Nat} {w : pw_W} {Q : Option Value → pw_W → Prop} {t : ct_T} (hw : w.1 = cs t) {x1 x2 x3 x4 : Int32}  
    (k1 : x2 ≤ x4 → Q (some (.int x3)) w)
    (k2 : ¬ x2 ≤ x4 → px_W E mX10_find (d + 1) 0 0 11 [.ref 61, .int x1, .int x2, .int x3, .int x4] [] w Q) :
    px_W E mX10_find (d + 1) 0 0 5 [.ref 61, .int x1, .int x2, .int x3, .int x4] [] w Q := by
  refine px_iload dX10_find_5 rfl ?_
  refine px_iload_n dX10_find_7 rfl rfl ?_
  refine px_icmp_ge (tgt := 41) dX10_find_8 (by decide) (fun h1 => ?_) (fun h1 => ?_)
  ·
    refine px_iload_n dX10_find_41 rfl rfl ?_
    exact px_ireturn dX10_find_42 rfl rfl (k1 h1)
  ·
    exact (k2 h1)
theorem bX10_find_11 {E : px_E} {d : Nat} {w : pw_W} {Q : Option Value → pw_W → Prop} {t : ct_T} (hw : w.1 = cs t) {x1 x2 x3 x4 : Int32}  (j1 : Nat) (hj1 : (x1 + x4) = nI j1) (hl1 : j1 < 8)
    (k1 : ¬ (pw_L w 63 j1) = (pw_L w 61 9) → px_W E mX10_find (d + 1) 0 0 34 [.ref 61, .int x1, .int x2, .null, .int x4] [.int x3] w Q)
    (k2 : (pw_L w 63 j1) = (pw_L w 61 9) → px_W E mX10_find (d + 1) 0 0 34 [.ref 61, .int x1, .int x2, .null, .int x4] [.int x4] w Q) :
    px_W E mX10_find (d + 1) 0 0 11 [.ref 61, .int x1, .int x2, .int x3, .int x4] [] w Q := by
  refine px_aload_n dX10_find_11 rfl rfl ?_
  refine px_getR (v := 63) dX10_find_12 fr_10_17 rfl (px_sh1 hw sh_61) (px_rf hw rf_61_10) (by decide) ?_
  refine px_iload_n dX10_find_15 rfl rfl ?_
  refine px_iload dX10_find_16 rfl ?_
  refine px_iadd dX10_find_18 ?_
  refine px_lald dX10_find_19 (px_sh2 hw sh_63) (by decide) j1 hj1 hl1 ?_
  refine px_aload_n dX10_find_20 rfl rfl ?_
  refine px_getL dX10_find_21 fr_10_177 rfl (px_sh1 hw sh_61) ?_
  refine px_lcmp_ne (tgt := 33) dX10_find_24 dX10_find_25 (by decide) (fun h1 => ?_) (fun h1 => ?_)
  ·
    refine px_iload_n dX10_find_33 rfl rfl ?_
    exact px_forget (k1 h1) ⟨Or.inr rfl, Or.inr rfl, Or.inr rfl, Or.inl rfl, Or.inr rfl, trivial⟩
  ·
    refine px_iload dX10_find_28 rfl ?_
    refine px_goto (tgt := 34) dX10_find_30 (by decide) ?_
    exact px_forget (k2 h1) ⟨Or.inr rfl, Or.inr rfl, Or.inr rfl, Or.inl rfl, Or.inr rfl, trivial⟩
theorem bX10_find_34 {E : px_E} {d : Nat} {w : pw_W} {Q : Option Value → pw_W → Prop} {t : ct_T} (hw : w.1 = cs t) {x1 x2 x4 y0 : Int32}  
    (k1 : px_W E mX10_find (d + 1) 0 0 5 [.ref 61, .int x1, .int x2, .int y0, .int (x4 + 1)] [] w Q) :
    px_W E mX10_find (d + 1) 0 0 34 [.ref 61, .int x1, .int x2, .null, .int x4] [.int y0] w Q := by
  refine px_istore_n (ls' := [.ref 61, .int x1, .int x2, .int y0, .int x4]) dX10_find_34 rfl ⟨by decide, rfl⟩ rfl ?_
  refine px_iinc (ls' := [.ref 61, .int x1, .int x2, .int y0, .int (x4 + 1)]) dX10_find_35 ⟨by decide, rfl⟩ rfl rfl rfl ?_
  refine px_goto (tgt := 5) dX10_find_38 (by decide) ?_
  exact k1
theorem dX10_newName_0 : decode mX10_newName.2.1 0 = .ok (.aload_n 0, 1) := by decide +kernel
theorem dX10_newName_1 : decode mX10_newName.2.1 1 = .ok (.invokevirtual 251, 3) := by decide +kernel
theorem dX10_newName_4 : decode mX10_newName.2.1 4 = .ok (.aload_n 0, 1) := by decide +kernel
theorem dX10_newName_5 : decode mX10_newName.2.1 5 = .ok (.invokevirtual 266, 3) := by decide +kernel
theorem dX10_newName_8 : decode mX10_newName.2.1 8 = .ok (.ifCond .ne 11, 3) := by decide +kernel
theorem dX10_newName_11 : decode mX10_newName.2.1 11 = .ok (.aload_n 0, 1) := by decide +kernel
theorem dX10_newName_12 : decode mX10_newName.2.1 12 = .ok (.iconst 2, 1) := by decide +kernel
theorem dX10_newName_13 : decode mX10_newName.2.1 13 = .ok (.invokevirtual 248, 3) := by decide +kernel
theorem dX10_newName_16 : decode mX10_newName.2.1 16 = .ok (.goto 17, 3) := by decide +kernel
theorem dX10_newName_19 : decode mX10_newName.2.1 19 = .ok (.aload_n 0, 1) := by decide +kernel
theorem dX10_newName_20 : decode mX10_newName.2.1 20 = .ok (.iload_n 1, 1) := by decide +kernel
theorem dX10_newName_21 : decode mX10_newName.2.1 21 = .ok (.iload_n 2, 1) := by decide +kernel
theorem dX10_newName_22 : decode mX10_newName.2.1 22 = .ok (.invokevirtual 269, 3) := by decide +kernel
theorem dX10_newName_25 : decode mX10_newName.2.1 25 = .ok (.ifCond .lt 8, 3) := by decide +kernel
theorem dX10_newName_28 : decode mX10_newName.2.1 28 = .ok (.aload_n 0, 1) := by decide +kernel
theorem dX10_newName_29 : decode mX10_newName.2.1 29 = .ok (.iconst 3, 1) := by decide +kernel
theorem dX10_newName_30 : decode mX10_newName.2.1 30 = .ok (.invokevirtual 248, 3) := by decide +kernel
theorem dX10_newName_33 : decode mX10_newName.2.1 33 = .ok (.aload_n 0, 1) := by decide +kernel
theorem dX10_newName_34 : decode mX10_newName.2.1 34 = .ok (.getfield 197, 3) := by decide +kernel
theorem dX10_newName_37 : decode mX10_newName.2.1 37 = .ok (.ifCond .le 4, 3) := by decide +kernel
theorem dX10_newName_40 : decode mX10_newName.2.1 40 = .ok (.return_, 1) := by decide +kernel
theorem dX10_newName_41 : decode mX10_newName.2.1 41 = .ok (.aload_n 0, 1) := by decide +kernel
theorem dX10_newName_42 : decode mX10_newName.2.1 42 = .ok (.getfield 17, 3) := by decide +kernel
theorem dX10_newName_45 : decode mX10_newName.2.1 45 = .ok (.iload_n 1, 1) := by decide +kernel
theorem dX10_newName_46 : decode mX10_newName.2.1 46 = .ok (.iload_n 2, 1) := by decide +kernel
theorem dX10_newName_47 : decode mX10_newName.2.1 47 = .ok (.iadd, 1) := by decide +kernel
theorem dX10_newName_48 : decode mX10_newName.2.1 48 = .ok (.aload_n 0, 1) := by decide +kernel
theorem dX10_newName_49 : decode mX10_newName.2.1 49 = .ok (.getfield 177, 3) := by decide +kernel
theorem dX10_newName_52 : decode mX10_newName.2.1 52 = .ok (.lastore, 1) := by decide +kernel
theorem dX10_newName_53 : decode mX10_newName.2.1 53 = .ok (.aload_n 0, 1) := by decide +kernel
theorem dX10_newName_54 : decode mX10_newName.2.1 54 = .ok (.invokevirtual 251, 3) := by decide +kernel
theorem dX10_newName_57 : decode mX10_newName.2.1 57 = .ok (.return_, 1) := by decide +kernel
theorem bX10_newName_0 {E : px_E} {d : Nat} {w : pw_W} {Q : Option Value → pw_W → Prop} {t : ct_T} (hw : w.1 = cs t) {x1 x2 : Int32}  
    (k1 : px_Call E (d + 2) 0 0 mX10_token [.ref 61] w (fun v w' => px_W E mX10_newName (d + 3) 0 0 4 [.ref 61, .int x1, .int x2] (v.toList ++ []) w' Q)) :
    px_W E mX10_newName (d + 3) 0 0 0 [.ref 61, .int x1, .int x2] [] w Q := by
  refine px_aload_n dX10_newName_0 rfl rfl ?_
  exact px_callV (As := []) (st := []) (rc := 0) (rs := 0) (mc := 0) (ms := 0) dX10_newName_1 lk_10_251 (px_sh1 hw sh_61) rfl rfl (Nat.le_of_ble_eq_true rfl) k1
theorem eX10_newName {E : px_E} {d : Nat} {w : pw_W} {Q : Option Value → pw_W → Prop} {t : ct_T} (hw : w.1 = cs t) {x1 x2 : Int32}  
    (k1 : px_Call E (d + 2) 0 0 mX10_token [.ref 61] w (fun v w' => px_W E mX10_newName (d + 3) 0 0 4 [.ref 61, .int x1, .int x2] (v.toList ++ []) w' Q)) :
    px_Call E (d + 3) 0 0 mX10_newName [.ref 61, .int x1, .int x2] w Q :=
  px_enter (k := 0) (by decide) (Nat.le_of_ble_eq_true rfl) rfl (px_forget (bX10_newName_0 hw k1) ⟨Or.inr rfl, Or.inr rfl, Or.inr rfl, trivial⟩)
theorem bX10_newName_4 {E : px_E} {d : Nat} {w : pw_W} {Q : Option Value → pw_W → Prop} {t : ct_T} (hw : w.1 = cs t) {x1 x2 : Int32}  
    (k1 : (pX10_isName w) → px_Call E (d + 2) 0 0 mX10_find [.ref 61, .int x1, .int x2] w (fun v w' => px_W E mX10_newName (d + 3) 0 0 25 [.ref 61, .int x1, .int x2] (v.toList ++ []) w' Q))
    (k2 : ¬ (pX10_isName w) → px_Call E (d + 2) 0 0 mX10_wrong [.ref 61, .int 2] w (fun v w' => px_W E mX10_newName (d + 3) 0 0 16 [.ref 61, .int x1, .int x2] (v.toList ++ []) w' Q)) :
    px_W E mX10_newName (d + 3) 0 0 4 [.ref 61, .int x1, .int x2] [] w Q := by
  refine px_aload_n dX10_newName_4 rfl rfl ?_
  refine px_callV (As := []) (st := []) (rc := 0) (rs := 0) (mc := 0) (ms := 0) dX10_newName_5 lk_10_266 (px_sh1 hw sh_61) rfl rfl (Nat.le_of_ble_eq_true rfl) (sX10_isName (w := w) hw ?_)
  show px_W E mX10_newName (d + 3) 0 0 8 [.ref 61, .int x1, .int x2] [.int (jb (pX10_isName w))] w Q
  refine px_jb_ne (tgt := 19) dX10_newName_8 (by decide) (fun h1 => ?_) (fun h1 => ?_)
  ·
    refine px_aload_n dX10_newName_19 rfl rfl ?_
    refine px_iload_n dX10_newName_20 rfl rfl ?_
    refine px_iload_n dX10_newName_21 rfl rfl ?_
    exact px_callV (As := [.int x1, .int x2]) (st := []) (rc := 0) (rs := 0) (mc := 0) (ms := 0) dX10_newName_22 lk_10_269 (px_sh1 hw sh_61) rfl rfl (Nat.le_of_ble_eq_true rfl) (k1 h1)
  ·
    refine px_aload_n dX10_newName_11 rfl rfl ?_
    refine px_iconst dX10_newName_12 ic_2 ?_
    exact px_callV (As := [.int 2]) (st := []) (rc := 0) (rs := 0) (mc := 0) (ms := 0) dX10_newName_13 lk_10_248 (px_sh1 hw sh_61) rfl rfl (Nat.le_of_ble_eq_true rfl) (k2 h1)
theorem bX10_newName_16 {E : px_E} {d : Nat} {w : pw_W} {Q : Option Value → pw_W → Prop} {t : ct_T} (hw : w.1 = cs t) {x1 x2 : Int32}  
    (k1 : px_W E mX10_newName (d + 3) 0 0 33 [.ref 61, .int x1, .int x2] [] w Q) :
    px_W E mX10_newName (d + 3) 0 0 16 [.ref 61, .int x1, .int x2] [] w Q := by
  refine px_goto (tgt := 33) dX10_newName_16 (by decide) ?_
  exact k1
theorem bX10_newName_25 {E : px_E} {d : Nat} {w : pw_W} {Q : Option Value → pw_W → Prop} {t : ct_T} (hw : w.1 = cs t) {x1 x2 y0 : Int32}  
    (k1 : y0 < 0 → px_W E mX10_newName (d + 3) 0 0 33 [.ref 61, .int x1, .int x2] [] w Q)
    (k2 : ¬ y0 < 0 → px_Call E (d + 2) 0 0 mX10_wrong [.ref 61, .int 3] w (fun v w' => px_W E mX10_newName (d + 3) 0 0 33 [.ref 61, .int x1, .int x2] (v.toList ++ []) w' Q)) :
    px_W E mX10_newName (d + 3) 0 0 25 [.ref 61, .int x1, .int x2] [.int y0] w Q := by
  refine px_if_lt (tgt := 33) dX10_newName_25 (by decide) (fun h1 => ?_) (fun h1 => ?_)
  ·
    exact (k1 h1)
  ·
    refine px_aload_n dX10_newName_28 rfl rfl ?_
    refine px_iconst dX10_newName_29 ic_3 ?_
    exact px_callV (As := [.int 3]) (st := []) (rc := 0) (rs := 0) (mc := 0) (ms := 0) dX10_newName_30 lk_10_248 (px_sh1 hw sh_61) rfl rfl (Nat.le_of_ble_eq_true rfl) (k2 h1)
theorem bX10_newName_33 {E : px_E} {d : Nat} {w : pw_W} {Q : Option Value → pw_W → Prop} {t : ct_T} (hw : w.1 = cs t) {x1 x2 : Int32}  
    (k1 : (pw_I w 61 2) ≤ 0 → px_W E mX10_newName (d + 3) 0 0 41 [.ref 61, .int x1, .int x2] [] w Q)
    (k2 : ¬ (pw_I w 61 2) ≤ 0 → Q none w) :
    px_W E mX10_newName (d + 3) 0 0 33 [.ref 61, .int x1, .int x2] [] w Q := by
  refine px_aload_n dX10_newName_33 rfl rfl ?_
  refine px_getI dX10_newName_34 fr_10_197 rfl (px_sh1 hw sh_61) ?_
  refine px_if_le (tgt := 41) dX10_newName_37 (by decide) (fun h1 => ?_) (fun h1 => ?_)
  ·
    exact (k1 h1)
  ·
    exact px_return dX10_newName_40 rfl (k2 h1)
theorem bX10_newName_41 {E : px_E} {d : Nat} {w : pw_W} {Q : Option Value → pw_W → Prop} {t : ct_T} (hw : w.1 = cs t) {x1 x2 : Int32}  (j1 : Nat) (hj1 : (x1 + x2) = nI j1) (hl1 : j1 < 8)
    (k1 : px_Call E (d + 2) 0 0 mX10_token [.ref 61] (pw_sL w 63 j1 (pw_L w 61 9)) (fun v w' => px_W E mX10_newName (d + 3) 0 0 57 [.null, .null, .null] (v.toList ++ []) w' Q)) :
    px_W E mX10_newName (d + 3) 0 0 41 [.ref 61, .int x1, .int x2] [] w Q := by
  refine px_aload_n dX10_newName_41 rfl rfl ?_
  refine px_getR (v := 63) dX10_newName_42 fr_10_17 rfl (px_sh1 hw sh_61) (px_rf hw rf_61_10) (by decide) ?_
  refine px_iload_n dX10_newName_45 rfl rfl ?_
  refine px_iload_n dX10_newName_46 rfl rfl ?_
  refine px_iadd dX10_newName_47 ?_
  refine px_aload_n dX10_newName_48 rfl rfl ?_
  refine px_getL dX10_newName_49 fr_10_177 rfl (px_sh1 hw sh_61) ?_
  refine px_last dX10_newName_52 (px_sh2 hw sh_63) (by decide) j1 hj1 hl1 (by omega) ?_
  refine px_aload_n dX10_newName_53 rfl rfl ?_
  refine px_forget (ls' := [.null, .null, .null]) ?_ ⟨Or.inl rfl, Or.inl rfl, Or.inl rfl, trivial⟩
  exact px_callV (As := []) (st := []) (rc := 0) (rs := 0) (mc := 0) (ms := 0) dX10_newName_54 lk_10_251 (px_sh1 (hL hw) sh_61) rfl rfl (Nat.le_of_ble_eq_true rfl) k1
theorem bX10_newName_57 {E : px_E} {d : Nat} {w : pw_W} {Q : Option Value → pw_W → Prop} {t : ct_T} (hw : w.1 = cs t)  
    (k1 : Q none w) :
    px_W E mX10_newName (d + 3) 0 0 57 [.null, .null, .null] [] w Q := by
  exact px_return dX10_newName_57 rfl k1
theorem dX10_oldPerson_0 : decode mX10_oldPerson.2.1 0 = .ok (.aload_n 0, 1) := by decide +kernel
theorem dX10_oldPerson_1 : decode mX10_oldPerson.2.1 1 = .ok (.getfield 197, 3) := by decide +kernel
theorem dX10_oldPerson_4 : decode mX10_oldPerson.2.1 4 = .ok (.ifCond .le 5, 3) := by decide +kernel
theorem dX10_oldPerson_7 : decode mX10_oldPerson.2.1 7 = .ok (.iconst 0, 1) := by decide +kernel
theorem dX10_oldPerson_8 : decode mX10_oldPerson.2.1 8 = .ok (.ireturn, 1) := by decide +kernel
theorem dX10_oldPerson_9 : decode mX10_oldPerson.2.1 9 = .ok (.aload_n 0, 1) := by decide +kernel
theorem dX10_oldPerson_10 : decode mX10_oldPerson.2.1 10 = .ok (.invokevirtual 266, 3) := by decide +kernel
theorem dX10_oldPerson_13 : decode mX10_oldPerson.2.1 13 = .ok (.ifCond .ne 11, 3) := by decide +kernel
theorem dX10_oldPerson_16 : decode mX10_oldPerson.2.1 16 = .ok (.aload_n 0, 1) := by decide +kernel
theorem dX10_oldPerson_17 : decode mX10_oldPerson.2.1 17 = .ok (.iconst 2, 1) := by decide +kernel
theorem dX10_oldPerson_18 : decode mX10_oldPerson.2.1 18 = .ok (.invokevirtual 248, 3) := by decide +kernel
theorem dX10_oldPerson_21 : decode mX10_oldPerson.2.1 21 = .ok (.goto 20, 3) := by decide +kernel
theorem dX10_oldPerson_24 : decode mX10_oldPerson.2.1 24 = .ok (.aload_n 0, 1) := by decide +kernel
theorem dX10_oldPerson_25 : decode mX10_oldPerson.2.1 25 = .ok (.iconst 0, 1) := by decide +kernel
theorem dX10_oldPerson_26 : decode mX10_oldPerson.2.1 26 = .ok (.aload_n 0, 1) := by decide +kernel
theorem dX10_oldPerson_27 : decode mX10_oldPerson.2.1 27 = .ok (.getfield 272, 3) := by decide +kernel
theorem dX10_oldPerson_30 : decode mX10_oldPerson.2.1 30 = .ok (.invokevirtual 269, 3) := by decide +kernel
theorem dX10_oldPerson_33 : decode mX10_oldPerson.2.1 33 = .ok (.ifCond .ge 8, 3) := by decide +kernel
theorem dX10_oldPerson_36 : decode mX10_oldPerson.2.1 36 = .ok (.aload_n 0, 1) := by decide +kernel
theorem dX10_oldPerson_37 : decode mX10_oldPerson.2.1 37 = .ok (.iconst 5, 1) := by decide +kernel
theorem dX10_oldPerson_38 : decode mX10_oldPerson.2.1 38 = .ok (.invokevirtual 248, 3) := by decide +kernel
theorem dX10_oldPerson_41 : decode mX10_oldPerson.2.1 41 = .ok (.aload_n 0, 1) := by decide +kernel
theorem dX10_oldPerson_42 : decode mX10_oldPerson.2.1 42 = .ok (.getfield 197, 3) := by decide +kernel
theorem dX10_oldPerson_45 : decode mX10_oldPerson.2.1 45 = .ok (.ifCond .le 7, 3) := by decide +kernel
theorem dX10_oldPerson_48 : decode mX10_oldPerson.2.1 48 = .ok (.iconst 0, 1) := by decide +kernel
theorem dX10_oldPerson_49 : decode mX10_oldPerson.2.1 49 = .ok (.goto 12, 3) := by decide +kernel
theorem dX10_oldPerson_52 : decode mX10_oldPerson.2.1 52 = .ok (.aload_n 0, 1) := by decide +kernel
theorem dX10_oldPerson_53 : decode mX10_oldPerson.2.1 53 = .ok (.iconst 0, 1) := by decide +kernel
theorem dX10_oldPerson_54 : decode mX10_oldPerson.2.1 54 = .ok (.aload_n 0, 1) := by decide +kernel
theorem dX10_oldPerson_55 : decode mX10_oldPerson.2.1 55 = .ok (.getfield 272, 3) := by decide +kernel
theorem dX10_oldPerson_58 : decode mX10_oldPerson.2.1 58 = .ok (.invokevirtual 269, 3) := by decide +kernel
theorem dX10_oldPerson_61 : decode mX10_oldPerson.2.1 61 = .ok (.ireturn, 1) := by decide +kernel
theorem bX10_oldPerson_0 {E : px_E} {d : Nat} {w : pw_W} {Q : Option Value → pw_W → Prop} {t : ct_T} (hw : w.1 = cs t)  
    (k1 : (pw_I w 61 2) ≤ 0 → (pX10_isName w) → px_Call E (d + 2) 0 0 mX10_find [.ref 61, .int 0, .int (pw_I w 61 45)] w (fun v w' => px_W E mX10_oldPerson (d + 3) 0 0 33 [.ref 61] (v.toList ++ []) w' Q))
    (k2 : (pw_I w 61 2) ≤ 0 → ¬ (pX10_isName w) → px_Call E (d + 2) 0 0 mX10_wrong [.ref 61, .int 2] w (fun v w' => px_W E mX10_oldPerson (d + 3) 0 0 21 [.ref 61] (v.toList ++ []) w' Q))
    (k3 : ¬ (pw_I w 61 2) ≤ 0 → Q (some (.int 0)) w) :
    px_W E mX10_oldPerson (d + 3) 0 0 0 [.ref 61] [] w Q := by
  refine px_aload_n dX10_oldPerson_0 rfl rfl ?_
  refine px_getI dX10_oldPerson_1 fr_10_197 rfl (px_sh1 hw sh_61) ?_
  refine px_if_le (tgt := 9) dX10_oldPerson_4 (by decide) (fun h1 => ?_) (fun h1 => ?_)
  ·
    refine px_aload_n dX10_oldPerson_9 rfl rfl ?_
    refine px_callV (As := []) (st := []) (rc := 0) (rs := 0) (mc := 0) (ms := 0) dX10_oldPerson_10 lk_10_266 (px_sh1 hw sh_61) rfl rfl (Nat.le_of_ble_eq_true rfl) (sX10_isName (w := w) hw ?_)
    show px_W E mX10_oldPerson (d + 3) 0 0 13 [.ref 61] [.int (jb (pX10_isName w))] w Q
    refine px_jb_ne (tgt := 24) dX10_oldPerson_13 (by decide) (fun h2 => ?_) (fun h2 => ?_)
    ·
      refine px_aload_n dX10_oldPerson_24 rfl rfl ?_
      refine px_iconst dX10_oldPerson_25 ic_0 ?_
      refine px_aload_n dX10_oldPerson_26 rfl rfl ?_
      refine px_getI dX10_oldPerson_27 fr_10_272 rfl (px_sh1 hw sh_61) ?_
      exact px_callV (As := [.int 0, .int (pw_I w 61 45)]) (st := []) (rc := 0) (rs := 0) (mc := 0) (ms := 0) dX10_oldPerson_30 lk_10_269 (px_sh1 hw sh_61) rfl rfl (Nat.le_of_ble_eq_true rfl) (k1 h1 h2)
    ·
      refine px_aload_n dX10_oldPerson_16 rfl rfl ?_
      refine px_iconst dX10_oldPerson_17 ic_2 ?_
      exact px_callV (As := [.int 2]) (st := []) (rc := 0) (rs := 0) (mc := 0) (ms := 0) dX10_oldPerson_18 lk_10_248 (px_sh1 hw sh_61) rfl rfl (Nat.le_of_ble_eq_true rfl) (k2 h1 h2)
  ·
    refine px_iconst dX10_oldPerson_7 ic_0 ?_
    exact px_ireturn dX10_oldPerson_8 rfl rfl (k3 h1)
theorem eX10_oldPerson {E : px_E} {d : Nat} {w : pw_W} {Q : Option Value → pw_W → Prop} {t : ct_T} (hw : w.1 = cs t)  
    (k1 : (pw_I w 61 2) ≤ 0 → (pX10_isName w) → px_Call E (d + 2) 0 0 mX10_find [.ref 61, .int 0, .int (pw_I w 61 45)] w (fun v w' => px_W E mX10_oldPerson (d + 3) 0 0 33 [.ref 61] (v.toList ++ []) w' Q))
    (k2 : (pw_I w 61 2) ≤ 0 → ¬ (pX10_isName w) → px_Call E (d + 2) 0 0 mX10_wrong [.ref 61, .int 2] w (fun v w' => px_W E mX10_oldPerson (d + 3) 0 0 21 [.ref 61] (v.toList ++ []) w' Q))
    (k3 : ¬ (pw_I w 61 2) ≤ 0 → Q (some (.int 0)) w) :
    px_Call E (d + 3) 0 0 mX10_oldPerson [.ref 61] w Q :=
  px_enter (k := 0) (by decide) (Nat.le_of_ble_eq_true rfl) rfl (px_forget (bX10_oldPerson_0 hw k1 k2 k3) ⟨Or.inr rfl, trivial⟩)
theorem bX10_oldPerson_21 {E : px_E} {d : Nat} {w : pw_W} {Q : Option Value → pw_W → Prop} {t : ct_T} (hw : w.1 = cs t)  
    (k1 : px_W E mX10_oldPerson (d + 3) 0 0 41 [.ref 61] [] w Q) :
    px_W E mX10_oldPerson (d + 3) 0 0 21 [.ref 61] [] w Q := by
  refine px_goto (tgt := 41) dX10_oldPerson_21 (by decide) ?_
  exact k1
theorem bX10_oldPerson_33 {E : px_E} {d : Nat} {w : pw_W} {Q : Option Value → pw_W → Prop} {t : ct_T} (hw : w.1 = cs t) {y0 : Int32}  
    (k1 : 0 ≤ y0 → px_W E mX10_oldPerson (d + 3) 0 0 41 [.ref 61] [] w Q)
    (k2 : ¬ 0 ≤ y0 → px_Call E (d + 2) 0 0 mX10_wrong [.ref 61, .int 5] w (fun v w' => px_W E mX10_oldPerson (d + 3) 0 0 41 [.ref 61] (v.toList ++ []) w' Q)) :
    px_W E mX10_oldPerson (d + 3) 0 0 33 [.ref 61] [.int y0] w Q := by
  refine px_if_ge (tgt := 41) dX10_oldPerson_33 (by decide) (fun h1 => ?_) (fun h1 => ?_)
  ·
    exact (k1 h1)
  ·
    refine px_aload_n dX10_oldPerson_36 rfl rfl ?_
    refine px_iconst dX10_oldPerson_37 ic_5 ?_
    exact px_callV (As := [.int 5]) (st := []) (rc := 0) (rs := 0) (mc := 0) (ms := 0) dX10_oldPerson_38 lk_10_248 (px_sh1 hw sh_61) rfl rfl (Nat.le_of_ble_eq_true rfl) (k2 h1)
theorem bX10_oldPerson_41 {E : px_E} {d : Nat} {w : pw_W} {Q : Option Value → pw_W → Prop} {t : ct_T} (hw : w.1 = cs t)  
    (k1 : (pw_I w 61 2) ≤ 0 → px_Call E (d + 2) 0 0 mX10_find [.ref 61, .int 0, .int (pw_I w 61 45)] w (fun v w' => px_W E mX10_oldPerson (d + 3) 0 0 61 [.null] (v.toList ++ []) w' Q))
    (k2 : ¬ (pw_I w 61 2) ≤ 0 → px_W E mX10_oldPerson (d + 3) 0 0 61 [.null] [.int 0] w Q) :
    px_W E mX10_oldPerson (d + 3) 0 0 41 [.ref 61] [] w Q := by
  refine px_aload_n dX10_oldPerson_41 rfl rfl ?_
  refine px_getI dX10_oldPerson_42 fr_10_197 rfl (px_sh1 hw sh_61) ?_
  refine px_if_le (tgt := 52) dX10_oldPerson_45 (by decide) (fun h1 => ?_) (fun h1 => ?_)
  ·
    refine px_aload_n dX10_oldPerson_52 rfl rfl ?_
    refine px_iconst dX10_oldPerson_53 ic_0 ?_
    refine px_aload_n dX10_oldPerson_54 rfl rfl ?_
    refine px_getI dX10_oldPerson_55 fr_10_272 rfl (px_sh1 hw sh_61) ?_
    refine px_forget (ls' := [.null]) ?_ ⟨Or.inl rfl, trivial⟩
    exact px_callV (As := [.int 0, .int (pw_I w 61 45)]) (st := []) (rc := 0) (rs := 0) (mc := 0) (ms := 0) dX10_oldPerson_58 lk_10_269 (px_sh1 hw sh_61) rfl rfl (Nat.le_of_ble_eq_true rfl) (k1 h1)
  ·
    refine px_iconst dX10_oldPerson_48 ic_0 ?_
    refine px_goto (tgt := 61) dX10_oldPerson_49 (by decide) ?_
    exact px_forget (k2 h1) ⟨Or.inl rfl, trivial⟩
theorem bX10_oldPerson_61 {E : px_E} {d : Nat} {w : pw_W} {Q : Option Value → pw_W → Prop} {t : ct_T} (hw : w.1 = cs t) {y0 : Int32}  
    (k1 : Q (some (.int y0)) w) :
    px_W E mX10_oldPerson (d + 3) 0 0 61 [.null] [.int y0] w Q := by
  exact px_ireturn dX10_oldPerson_61 rfl rfl k1
theorem dX10_add_0 : decode mX10_add.2.1 0 = .ok (.aload_n 0, 1) := by decide +kernel
theorem dX10_add_1 : decode mX10_add.2.1 1 = .ok (.getfield 21, 3) := by decide +kernel
theorem dX10_add_4 : decode mX10_add.2.1 4 = .ok (.aload_n 0, 1) := by decide +kernel
theorem dX10_add_5 : decode mX10_add.2.1 5 = .ok (.getfield 275, 3) := by decide +kernel
theorem dX10_add_8 : decode mX10_add.2.1 8 = .ok (.iload_n 1, 1) := by decide +kernel
theorem dX10_add_9 : decode mX10_add.2.1 9 = .ok (.iastore, 1) := by decide +kernel
theorem dX10_add_10 : decode mX10_add.2.1 10 = .ok (.aload_n 0, 1) := by decide +kernel
theorem dX10_add_11 : decode mX10_add.2.1 11 = .ok (.getfield 24, 3) := by decide +kernel
theorem dX10_add_14 : decode mX10_add.2.1 14 = .ok (.aload_n 0, 1) := by decide +kernel
theorem dX10_add_15 : decode mX10_add.2.1 15 = .ok (.getfield 275, 3) := by decide +kernel
theorem dX10_add_18 : decode mX10_add.2.1 18 = .ok (.iload_n 2, 1) := by decide +kernel
theorem dX10_add_19 : decode mX10_add.2.1 19 = .ok (.iastore, 1) := by decide +kernel
theorem dX10_add_20 : decode mX10_add.2.1 20 = .ok (.aload_n 0, 1) := by decide +kernel
theorem dX10_add_21 : decode mX10_add.2.1 21 = .ok (.dup, 1) := by decide +kernel
theorem dX10_add_22 : decode mX10_add.2.1 22 = .ok (.getfield 275, 3) := by decide +kernel
theorem dX10_add_25 : decode mX10_add.2.1 25 = .ok (.iconst 1, 1) := by decide +kernel
theorem dX10_add_26 : decode mX10_add.2.1 26 = .ok (.iadd, 1) := by decide +kernel
theorem dX10_add_27 : decode mX10_add.2.1 27 = .ok (.putfield 275, 3) := by decide +kernel
theorem dX10_add_30 : decode mX10_add.2.1 30 = .ok (.return_, 1) := by decide +kernel
theorem bX10_add_0 {E : px_E} {d : Nat} {w : pw_W} {Q : Option Value → pw_W → Prop} {t : ct_T} (hw : w.1 = cs t) {x1 x2 : Int32}  (j1 : Nat) (hj1 : (pw_I w 61 17) = nI j1) (hl1 : j1 < 320)
    (k1 : Q none (pw_sI (pw_sI (pw_sI w 64 j1 x1) 65 j1 x2) 61 17 ((pw_I w 61 17) + 1))) :
    px_W E mX10_add (d + 1) 0 0 0 [.ref 61, .int x1, .int x2] [] w Q := by
  refine px_aload_n dX10_add_0 rfl rfl ?_
  refine px_getR (v := 64) dX10_add_1 fr_10_21 rfl (px_sh1 hw sh_61) (px_rf hw rf_61_11) (by decide) ?_
  refine px_aload_n dX10_add_4 rfl rfl ?_
  refine px_getI dX10_add_5 fr_10_275 rfl (px_sh1 hw sh_61) ?_
  refine px_iload_n dX10_add_8 rfl rfl ?_
  refine px_iast dX10_add_9 (px_sh2 hw sh_64) (by decide) j1 hj1 hl1 (by omega) ?_
  refine px_aload_n dX10_add_10 rfl rfl ?_
  refine px_getR (v := 65) dX10_add_11 fr_10_24 rfl (px_sh1 (hI hw) sh_61) (px_rf (hI hw) rf_61_12) (by decide) ?_
  refine px_aload_n dX10_add_14 rfl rfl ?_
  refine px_getIv (v := (pw_I w 61 17)) dX10_add_15 fr_10_275 rfl (px_sh1 (hI hw) sh_61) rfl ?_
  refine px_iload_n dX10_add_18 rfl rfl ?_
  refine px_iast dX10_add_19 (px_sh2 (hI hw) sh_65) (by decide) j1 hj1 hl1 (by omega) ?_
  refine px_aload_n dX10_add_20 rfl rfl ?_
  refine px_dup dX10_add_21 rfl ?_
  refine px_getIv (v := (pw_I w 61 17)) dX10_add_22 fr_10_275 rfl (px_sh1 (hI (hI hw)) sh_61) rfl ?_
  refine px_iconst dX10_add_25 ic_1 ?_
  refine px_iadd dX10_add_26 ?_
  refine px_putI dX10_add_27 fl_10_275 (Or.inl rfl) rfl (px_sh1 (hI (hI hw)) sh_61) rfl rfl (by omega) ?_
  exact px_return dX10_add_30 rfl k1
theorem eX10_add {E : px_E} {d : Nat} {w : pw_W} {Q : Option Value → pw_W → Prop} {t : ct_T} (hw : w.1 = cs t) {x1 x2 : Int32}  (j1 : Nat) (hj1 : (pw_I w 61 17) = nI j1) (hl1 : j1 < 320)
    (k1 : Q none (pw_sI (pw_sI (pw_sI w 64 j1 x1) 65 j1 x2) 61 17 ((pw_I w 61 17) + 1))) :
    px_Call E (d + 1) 0 0 mX10_add [.ref 61, .int x1, .int x2] w Q :=
  px_enter (k := 0) (by decide) (Nat.le_of_ble_eq_true rfl) rfl (px_forget (bX10_add_0 hw j1 hj1 hl1 k1) ⟨Or.inr rfl, Or.inr rfl, Or.inr rfl, trivial⟩)
theorem dX10_close_0 : decode mX10_close.2.1 0 = .ok (.aload_n 0, 1) := by decide +kernel
theorem dX10_close_1 : decode mX10_close.2.1 1 = .ok (.getfield 278, 3) := by decide +kernel
theorem dX10_close_4 : decode mX10_close.2.1 4 = .ok (.ifCond .le 97, 3) := by decide +kernel
theorem dX10_close_7 : decode mX10_close.2.1 7 = .ok (.aload_n 0, 1) := by decide +kernel
theorem dX10_close_8 : decode mX10_close.2.1 8 = .ok (.getfield 33, 3) := by decide +kernel
theorem dX10_close_11 : decode mX10_close.2.1 11 = .ok (.aload_n 0, 1) := by decide +kernel
theorem dX10_close_12 : decode mX10_close.2.1 12 = .ok (.getfield 278, 3) := by decide +kernel
theorem dX10_close_15 : decode mX10_close.2.1 15 = .ok (.iconst 1, 1) := by decide +kernel
theorem dX10_close_16 : decode mX10_close.2.1 16 = .ok (.isub, 1) := by decide +kernel
theorem dX10_close_17 : decode mX10_close.2.1 17 = .ok (.iaload, 1) := by decide +kernel
theorem dX10_close_18 : decode mX10_close.2.1 18 = .ok (.bipush 20, 2) := by decide +kernel
theorem dX10_close_20 : decode mX10_close.2.1 20 = .ok (.if_icmp .eq 81, 3) := by decide +kernel
theorem dX10_close_23 : decode mX10_close.2.1 23 = .ok (.aload_n 0, 1) := by decide +kernel
theorem dX10_close_24 : decode mX10_close.2.1 24 = .ok (.getfield 33, 3) := by decide +kernel
theorem dX10_close_27 : decode mX10_close.2.1 27 = .ok (.aload_n 0, 1) := by decide +kernel
theorem dX10_close_28 : decode mX10_close.2.1 28 = .ok (.getfield 278, 3) := by decide +kernel
theorem dX10_close_31 : decode mX10_close.2.1 31 = .ok (.iconst 1, 1) := by decide +kernel
theorem dX10_close_32 : decode mX10_close.2.1 32 = .ok (.isub, 1) := by decide +kernel
theorem dX10_close_33 : decode mX10_close.2.1 33 = .ok (.iaload, 1) := by decide +kernel
theorem dX10_close_34 : decode mX10_close.2.1 34 = .ok (.invokestatic 281, 3) := by decide +kernel
theorem dX10_close_37 : decode mX10_close.2.1 37 = .ok (.iload_n 1, 1) := by decide +kernel
theorem dX10_close_38 : decode mX10_close.2.1 38 = .ok (.if_icmp .lt 63, 3) := by decide +kernel
theorem dX10_close_41 : decode mX10_close.2.1 41 = .ok (.aload_n 0, 1) := by decide +kernel
theorem dX10_close_42 : decode mX10_close.2.1 42 = .ok (.dup, 1) := by decide +kernel
theorem dX10_close_43 : decode mX10_close.2.1 43 = .ok (.getfield 278, 3) := by decide +kernel
theorem dX10_close_46 : decode mX10_close.2.1 46 = .ok (.iconst 1, 1) := by decide +kernel
theorem dX10_close_47 : decode mX10_close.2.1 47 = .ok (.isub, 1) := by decide +kernel
theorem dX10_close_48 : decode mX10_close.2.1 48 = .ok (.putfield 278, 3) := by decide +kernel
theorem dX10_close_51 : decode mX10_close.2.1 51 = .ok (.aload_n 0, 1) := by decide +kernel
theorem dX10_close_52 : decode mX10_close.2.1 52 = .ok (.getfield 33, 3) := by decide +kernel
theorem dX10_close_55 : decode mX10_close.2.1 55 = .ok (.aload_n 0, 1) := by decide +kernel
theorem dX10_close_56 : decode mX10_close.2.1 56 = .ok (.getfield 278, 3) := by decide +kernel
theorem dX10_close_59 : decode mX10_close.2.1 59 = .ok (.iaload, 1) := by decide +kernel
theorem dX10_close_60 : decode mX10_close.2.1 60 = .ok (.bipush 21, 2) := by decide +kernel
theorem dX10_close_62 : decode mX10_close.2.1 62 = .ok (.if_icmp .ne 22, 3) := by decide +kernel
theorem dX10_close_65 : decode mX10_close.2.1 65 = .ok (.aload_n 0, 1) := by decide +kernel
theorem dX10_close_66 : decode mX10_close.2.1 66 = .ok (.iconst 2, 1) := by decide +kernel
theorem dX10_close_67 : decode mX10_close.2.1 67 = .ok (.iconst 0, 1) := by decide +kernel
theorem dX10_close_68 : decode mX10_close.2.1 68 = .ok (.invokevirtual 284, 3) := by decide +kernel
theorem dX10_close_71 : decode mX10_close.2.1 71 = .ok (.aload_n 0, 1) := by decide +kernel
theorem dX10_close_72 : decode mX10_close.2.1 72 = .ok (.dup, 1) := by decide +kernel
theorem dX10_close_73 : decode mX10_close.2.1 73 = .ok (.getfield 288, 3) := by decide +kernel
theorem dX10_close_76 : decode mX10_close.2.1 76 = .ok (.iconst 1, 1) := by decide +kernel
theorem dX10_close_77 : decode mX10_close.2.1 77 = .ok (.isub, 1) := by decide +kernel
theorem dX10_close_78 : decode mX10_close.2.1 78 = .ok (.putfield 288, 3) := by decide +kernel
theorem dX10_close_81 : decode mX10_close.2.1 81 = .ok (.goto (-81), 3) := by decide +kernel
theorem dX10_close_84 : decode mX10_close.2.1 84 = .ok (.aload_n 0, 1) := by decide +kernel
theorem dX10_close_85 : decode mX10_close.2.1 85 = .ok (.iconst 3, 1) := by decide +kernel
theorem dX10_close_86 : decode mX10_close.2.1 86 = .ok (.aload_n 0, 1) := by decide +kernel
theorem dX10_close_87 : decode mX10_close.2.1 87 = .ok (.getfield 33, 3) := by decide +kernel
theorem dX10_close_90 : decode mX10_close.2.1 90 = .ok (.aload_n 0, 1) := by decide +kernel
theorem dX10_close_91 : decode mX10_close.2.1 91 = .ok (.getfield 278, 3) := by decide +kernel
theorem dX10_close_94 : decode mX10_close.2.1 94 = .ok (.iaload, 1) := by decide +kernel
theorem dX10_close_95 : decode mX10_close.2.1 95 = .ok (.invokevirtual 284, 3) := by decide +kernel
theorem dX10_close_98 : decode mX10_close.2.1 98 = .ok (.goto (-98), 3) := by decide +kernel
theorem dX10_close_101 : decode mX10_close.2.1 101 = .ok (.return_, 1) := by decide +kernel
theorem bX10_close_0 {E : px_E} {d : Nat} {w : pw_W} {Q : Option Value → pw_W → Prop} {t : ct_T} (hw : w.1 = cs t) {x1 : Int32}  
    (k1 : (pw_I w 61 19) ≤ 0 → px_W E mX10_close (d + 2) 0 0 101 [.null, .null] [] w Q)
    (k2 : ¬ (pw_I w 61 19) ≤ 0 → px_W E mX10_close (d + 2) 0 0 7 [.ref 61, .int x1] [] w Q) :
    px_W E mX10_close (d + 2) 0 0 0 [.ref 61, .int x1] [] w Q := by
  refine px_aload_n dX10_close_0 rfl rfl ?_
  refine px_getI dX10_close_1 fr_10_278 rfl (px_sh1 hw sh_61) ?_
  refine px_if_le (tgt := 101) dX10_close_4 (by decide) (fun h1 => ?_) (fun h1 => ?_)
  ·
    exact px_forget (k1 h1) ⟨Or.inl rfl, Or.inl rfl, trivial⟩
  ·
    exact (k2 h1)
theorem eX10_close {E : px_E} {d : Nat} {w : pw_W} {Q : Option Value → pw_W → Prop} {t : ct_T} (hw : w.1 = cs t) {x1 : Int32}  
    (k1 : (pw_I w 61 19) ≤ 0 → px_W E mX10_close (d + 2) 0 0 101 [.null, .null] [] w Q)
    (k2 : ¬ (pw_I w 61 19) ≤ 0 → px_W E mX10_close (d + 2) 0 0 7 [.ref 61, .int x1] [] w Q) :
    px_Call E (d + 2) 0 0 mX10_close [.ref 61, .int x1] w Q :=
  px_enter (k := 0) (by decide) (Nat.le_of_ble_eq_true rfl) rfl (px_forget (bX10_close_0 hw k1 k2) ⟨Or.inr rfl, Or.inr rfl, trivial⟩)
theorem bX10_close_7 {E : px_E} {d : Nat} {w : pw_W} {Q : Option Value → pw_W → Prop} {t : ct_T} (hw : w.1 = cs t) {x1 : Int32}  (j1 : Nat) (hj1 : ((pw_I w 61 19) - 1) = nI j1) (hl1 : j1 < 160)
    (k1 : (pw_I w 68 j1) = 20 → px_W E mX10_close (d + 2) 0 0 101 [.null, .null] [] w Q)
    (k2 : ¬ (pw_I w 68 j1) = 20 → px_W E mX10_close (d + 2) 0 0 23 [.ref 61, .int x1] [] w Q) :
    px_W E mX10_close (d + 2) 0 0 7 [.ref 61, .int x1] [] w Q := by
  refine px_aload_n dX10_close_7 rfl rfl ?_
  refine px_getR (v := 68) dX10_close_8 fr_10_33 rfl (px_sh1 hw sh_61) (px_rf hw rf_61_15) (by decide) ?_
  refine px_aload_n dX10_close_11 rfl rfl ?_
  refine px_getI dX10_close_12 fr_10_278 rfl (px_sh1 hw sh_61) ?_
  refine px_iconst dX10_close_15 ic_1 ?_
  refine px_isub dX10_close_16 ?_
  refine px_iald dX10_close_17 (px_sh2 hw sh_68) (by decide) j1 hj1 hl1 ?_
  refine px_bipush dX10_close_18 bp_20 ?_
  refine px_icmp_eq (tgt := 101) dX10_close_20 (by decide) (fun h1 => ?_) (fun h1 => ?_)
  ·
    exact px_forget (k1 h1) ⟨Or.inl rfl, Or.inl rfl, trivial⟩
  ·
    exact (k2 h1)
theorem bX10_close_23 {E : px_E} {d : Nat} {w : pw_W} {Q : Option Value → pw_W → Prop} {t : ct_T} (hw : w.1 = cs t) {x1 : Int32}  (j1 : Nat) (hj1 : ((pw_I w 61 19) - 1) = nI j1) (hl1 : j1 < 160)
    (k1 : (hX10_tight (pw_I w 68 j1)) < x1 → px_W E mX10_close (d + 2) 0 0 101 [.null, .null] [] w Q)
    (k2 : ¬ (hX10_tight (pw_I w 68 j1)) < x1 → px_W E mX10_close (d + 2) 0 0 41 [.ref 61, .int x1] [] w Q) :
    px_W E mX10_close (d + 2) 0 0 23 [.ref 61, .int x1] [] w Q := by
  refine px_aload_n dX10_close_23 rfl rfl ?_
  refine px_getR (v := 68) dX10_close_24 fr_10_33 rfl (px_sh1 hw sh_61) (px_rf hw rf_61_15) (by decide) ?_
  refine px_aload_n dX10_close_27 rfl rfl ?_
  refine px_getI dX10_close_28 fr_10_278 rfl (px_sh1 hw sh_61) ?_
  refine px_iconst dX10_close_31 ic_1 ?_
  refine px_isub dX10_close_32 ?_
  refine px_iald dX10_close_33 (px_sh2 hw sh_68) (by decide) j1 hj1 hl1 ?_
  refine px_callS (As := [.int (pw_I w 68 j1)]) (st := []) (rc := 0) (rs := 0) (mc := 0) (ms := 0) dX10_close_34 lk_10_281 rfl rfl (Nat.le_of_ble_eq_true rfl) (sX10_tight ?_)
  show px_W E mX10_close (d + 2) 0 0 37 [.ref 61, .int x1] [.int (hX10_tight (pw_I w 68 j1))] w Q
  refine px_iload_n dX10_close_37 rfl rfl ?_
  refine px_icmp_lt (tgt := 101) dX10_close_38 (by decide) (fun h1 => ?_) (fun h1 => ?_)
  ·
    exact px_forget (k1 h1) ⟨Or.inl rfl, Or.inl rfl, trivial⟩
  ·
    exact (k2 h1)
theorem bX10_close_41 {E : px_E} {d : Nat} {w : pw_W} {Q : Option Value → pw_W → Prop} {t : ct_T} (hw : w.1 = cs t) {x1 : Int32}  (j1 : Nat) (hj1 : ((pw_I w 61 19) - 1) = nI j1) (hl1 : j1 < 160)
    (k1 : ¬ (pw_I w 68 j1) = 21 → px_W E mX10_close (d + 2) 0 0 84 [.ref 61, .int x1] [] (pw_sI w 61 19 ((pw_I w 61 19) - 1)) Q)
    (k2 : (pw_I w 68 j1) = 21 → px_Call E (d + 1) 0 0 mX10_add [.ref 61, .int 2, .int 0] (pw_sI w 61 19 ((pw_I w 61 19) - 1)) (fun v w' => px_W E mX10_close (d + 2) 0 0 71 [.ref 61, .int x1] (v.toList ++ []) w' Q)) :
    px_W E mX10_close (d + 2) 0 0 41 [.ref 61, .int x1] [] w Q := by
  refine px_aload_n dX10_close_41 rfl rfl ?_
  refine px_dup dX10_close_42 rfl ?_
  refine px_getI dX10_close_43 fr_10_278 rfl (px_sh1 hw sh_61) ?_
  refine px_iconst dX10_close_46 ic_1 ?_
  refine px_isub dX10_close_47 ?_
  refine px_putI dX10_close_48 fl_10_278 (Or.inl rfl) rfl (px_sh1 hw sh_61) rfl rfl (by omega) ?_
  refine px_aload_n dX10_close_51 rfl rfl ?_
  refine px_getR (v := 68) dX10_close_52 fr_10_33 rfl (px_sh1 (hI hw) sh_61) (px_rf (hI hw) rf_61_15) (by decide) ?_
  refine px_aload_n dX10_close_55 rfl rfl ?_
  refine px_getIv (v := ((pw_I w 61 19) - 1)) dX10_close_56 fr_10_278 rfl (px_sh1 (hI hw) sh_61) rfl ?_
  refine px_ialdv (v := (pw_I w 68 j1)) dX10_close_59 (px_sh2 (hI hw) sh_68) (by decide) j1 hj1 hl1 rfl ?_
  refine px_bipush dX10_close_60 bp_21 ?_
  refine px_icmp_ne (tgt := 84) dX10_close_62 (by decide) (fun h1 => ?_) (fun h1 => ?_)
  ·
    exact (k1 h1)
  ·
    refine px_aload_n dX10_close_65 rfl rfl ?_
    refine px_iconst dX10_close_66 ic_2 ?_
    refine px_iconst dX10_close_67 ic_0 ?_
    exact px_callV (As := [.int 2, .int 0]) (st := []) (rc := 0) (rs := 0) (mc := 0) (ms := 0) dX10_close_68 lk_10_284 (px_sh1 (hI hw) sh_61) rfl rfl (Nat.le_of_ble_eq_true rfl) (k2 h1)
theorem bX10_close_71 {E : px_E} {d : Nat} {w : pw_W} {Q : Option Value → pw_W → Prop} {t : ct_T} (hw : w.1 = cs t) {x1 : Int32}  
    (k1 : px_W E mX10_close (d + 2) 0 0 0 [.ref 61, .int x1] [] (pw_sI w 61 23 ((pw_I w 61 23) - 1)) Q) :
    px_W E mX10_close (d + 2) 0 0 71 [.ref 61, .int x1] [] w Q := by
  refine px_aload_n dX10_close_71 rfl rfl ?_
  refine px_dup dX10_close_72 rfl ?_
  refine px_getI dX10_close_73 fr_10_288 rfl (px_sh1 hw sh_61) ?_
  refine px_iconst dX10_close_76 ic_1 ?_
  refine px_isub dX10_close_77 ?_
  refine px_putI dX10_close_78 fl_10_288 (Or.inl rfl) rfl (px_sh1 hw sh_61) rfl rfl (by omega) ?_
  refine px_goto (tgt := 0) dX10_close_81 (by decide) ?_
  exact k1
theorem bX10_close_84 {E : px_E} {d : Nat} {w : pw_W} {Q : Option Value → pw_W → Prop} {t : ct_T} (hw : w.1 = cs t) {x1 : Int32}  (j1 : Nat) (hj1 : (pw_I w 61 19) = nI j1) (hl1 : j1 < 160)
    (k1 : px_Call E (d + 1) 0 0 mX10_add [.ref 61, .int 3, .int (pw_I w 68 j1)] w (fun v w' => px_W E mX10_close (d + 2) 0 0 98 [.ref 61, .int x1] (v.toList ++ []) w' Q)) :
    px_W E mX10_close (d + 2) 0 0 84 [.ref 61, .int x1] [] w Q := by
  refine px_aload_n dX10_close_84 rfl rfl ?_
  refine px_iconst dX10_close_85 ic_3 ?_
  refine px_aload_n dX10_close_86 rfl rfl ?_
  refine px_getR (v := 68) dX10_close_87 fr_10_33 rfl (px_sh1 hw sh_61) (px_rf hw rf_61_15) (by decide) ?_
  refine px_aload_n dX10_close_90 rfl rfl ?_
  refine px_getI dX10_close_91 fr_10_278 rfl (px_sh1 hw sh_61) ?_
  refine px_iald dX10_close_94 (px_sh2 hw sh_68) (by decide) j1 hj1 hl1 ?_
  exact px_callV (As := [.int 3, .int (pw_I w 68 j1)]) (st := []) (rc := 0) (rs := 0) (mc := 0) (ms := 0) dX10_close_95 lk_10_284 (px_sh1 hw sh_61) rfl rfl (Nat.le_of_ble_eq_true rfl) k1
theorem bX10_close_98 {E : px_E} {d : Nat} {w : pw_W} {Q : Option Value → pw_W → Prop} {t : ct_T} (hw : w.1 = cs t) {x1 : Int32}  
    (k1 : px_W E mX10_close (d + 2) 0 0 0 [.ref 61, .int x1] [] w Q) :
    px_W E mX10_close (d + 2) 0 0 98 [.ref 61, .int x1] [] w Q := by
  refine px_goto (tgt := 0) dX10_close_98 (by decide) ?_
  exact k1
theorem bX10_close_101 {E : px_E} {d : Nat} {w : pw_W} {Q : Option Value → pw_W → Prop} {t : ct_T} (hw : w.1 = cs t)  
    (k1 : Q none w) :
    px_W E mX10_close (d + 2) 0 0 101 [.null, .null] [] w Q := by
  exact px_return dX10_close_101 rfl k1
theorem dX10_hasRelation_0 : decode mX10_hasRelation.2.1 0 = .ok (.aload_n 0, 1) := by decide +kernel
theorem dX10_hasRelation_1 : decode mX10_hasRelation.2.1 1 = .ok (.getfield 278, 3) := by decide +kernel
theorem dX10_hasRelation_4 : decode mX10_hasRelation.2.1 4 = .ok (.iconst 1, 1) := by decide +kernel
theorem dX10_hasRelation_5 : decode mX10_hasRelation.2.1 5 = .ok (.isub, 1) := by decide +kernel
theorem dX10_hasRelation_6 : decode mX10_hasRelation.2.1 6 = .ok (.istore_n 1, 1) := by decide +kernel
theorem dX10_hasRelation_7 : decode mX10_hasRelation.2.1 7 = .ok (.iload_n 1, 1) := by decide +kernel
theorem dX10_hasRelation_8 : decode mX10_hasRelation.2.1 8 = .ok (.ifCond .lt 33, 3) := by decide +kernel
theorem dX10_hasRelation_11 : decode mX10_hasRelation.2.1 11 = .ok (.aload_n 0, 1) := by decide +kernel
theorem dX10_hasRelation_12 : decode mX10_hasRelation.2.1 12 = .ok (.getfield 33, 3) := by decide +kernel
theorem dX10_hasRelation_15 : decode mX10_hasRelation.2.1 15 = .ok (.iload_n 1, 1) := by decide +kernel
theorem dX10_hasRelation_16 : decode mX10_hasRelation.2.1 16 = .ok (.iaload, 1) := by decide +kernel
theorem dX10_hasRelation_17 : decode mX10_hasRelation.2.1 17 = .ok (.bipush 20, 2) := by decide +kernel
theorem dX10_hasRelation_19 : decode mX10_hasRelation.2.1 19 = .ok (.if_icmp .eq 22, 3) := by decide +kernel
theorem dX10_hasRelation_22 : decode mX10_hasRelation.2.1 22 = .ok (.aload_n 0, 1) := by decide +kernel
theorem dX10_hasRelation_23 : decode mX10_hasRelation.2.1 23 = .ok (.getfield 33, 3) := by decide +kernel
theorem dX10_hasRelation_26 : decode mX10_hasRelation.2.1 26 = .ok (.iload_n 1, 1) := by decide +kernel
theorem dX10_hasRelation_27 : decode mX10_hasRelation.2.1 27 = .ok (.iaload, 1) := by decide +kernel
theorem dX10_hasRelation_28 : decode mX10_hasRelation.2.1 28 = .ok (.invokestatic 281, 3) := by decide +kernel
theorem dX10_hasRelation_31 : decode mX10_hasRelation.2.1 31 = .ok (.iconst 4, 1) := by decide +kernel
theorem dX10_hasRelation_32 : decode mX10_hasRelation.2.1 32 = .ok (.if_icmp .le 9, 3) := by decide +kernel
theorem dX10_hasRelation_35 : decode mX10_hasRelation.2.1 35 = .ok (.iinc 1 (-1), 3) := by decide +kernel
theorem dX10_hasRelation_38 : decode mX10_hasRelation.2.1 38 = .ok (.goto (-31), 3) := by decide +kernel
theorem dX10_hasRelation_41 : decode mX10_hasRelation.2.1 41 = .ok (.iload_n 1, 1) := by decide +kernel
theorem dX10_hasRelation_42 : decode mX10_hasRelation.2.1 42 = .ok (.ifCond .lt 31, 3) := by decide +kernel
theorem dX10_hasRelation_45 : decode mX10_hasRelation.2.1 45 = .ok (.aload_n 0, 1) := by decide +kernel
theorem dX10_hasRelation_46 : decode mX10_hasRelation.2.1 46 = .ok (.getfield 33, 3) := by decide +kernel
theorem dX10_hasRelation_49 : decode mX10_hasRelation.2.1 49 = .ok (.iload_n 1, 1) := by decide +kernel
theorem dX10_hasRelation_50 : decode mX10_hasRelation.2.1 50 = .ok (.iaload, 1) := by decide +kernel
theorem dX10_hasRelation_51 : decode mX10_hasRelation.2.1 51 = .ok (.bipush 20, 2) := by decide +kernel
theorem dX10_hasRelation_53 : decode mX10_hasRelation.2.1 53 = .ok (.if_icmp .eq 20, 3) := by decide +kernel
theorem dX10_hasRelation_56 : decode mX10_hasRelation.2.1 56 = .ok (.aload_n 0, 1) := by decide +kernel
theorem dX10_hasRelation_57 : decode mX10_hasRelation.2.1 57 = .ok (.getfield 33, 3) := by decide +kernel
theorem dX10_hasRelation_60 : decode mX10_hasRelation.2.1 60 = .ok (.iload_n 1, 1) := by decide +kernel
theorem dX10_hasRelation_61 : decode mX10_hasRelation.2.1 61 = .ok (.iaload, 1) := by decide +kernel
theorem dX10_hasRelation_62 : decode mX10_hasRelation.2.1 62 = .ok (.invokestatic 281, 3) := by decide +kernel
theorem dX10_hasRelation_65 : decode mX10_hasRelation.2.1 65 = .ok (.iconst 4, 1) := by decide +kernel
theorem dX10_hasRelation_66 : decode mX10_hasRelation.2.1 66 = .ok (.if_icmp .ne 7, 3) := by decide +kernel
theorem dX10_hasRelation_69 : decode mX10_hasRelation.2.1 69 = .ok (.iconst 1, 1) := by decide +kernel
theorem dX10_hasRelation_70 : decode mX10_hasRelation.2.1 70 = .ok (.goto 4, 3) := by decide +kernel
theorem dX10_hasRelation_73 : decode mX10_hasRelation.2.1 73 = .ok (.iconst 0, 1) := by decide +kernel
theorem dX10_hasRelation_74 : decode mX10_hasRelation.2.1 74 = .ok (.ireturn, 1) := by decide +kernel
theorem bX10_hasRelation_0 {E : px_E} {d : Nat} {w : pw_W} {Q : Option Value → pw_W → Prop} {t : ct_T} (hw : w.1 = cs t)  
    (k1 : px_W E mX10_hasRelation (d + 2) 0 0 7 [.ref 61, .int ((pw_I w 61 19) - 1)] [] w Q) :
    px_W E mX10_hasRelation (d + 2) 0 0 0 [.ref 61, .null] [] w Q := by
  refine px_aload_n dX10_hasRelation_0 rfl rfl ?_
  refine px_getI dX10_hasRelation_1 fr_10_278 rfl (px_sh1 hw sh_61) ?_
  refine px_iconst dX10_hasRelation_4 ic_1 ?_
  refine px_isub dX10_hasRelation_5 ?_
  refine px_istore_n (ls' := [.ref 61, .int ((pw_I w 61 19) - 1)]) dX10_hasRelation_6 rfl ⟨by decide, rfl⟩ rfl ?_
  exact k1
theorem eX10_hasRelation {E : px_E} {d : Nat} {w : pw_W} {Q : Option Value → pw_W → Prop} {t : ct_T} (hw : w.1 = cs t)  
    (k1 : px_W E mX10_hasRelation (d + 2) 0 0 7 [.ref 61, .int ((pw_I w 61 19) - 1)] [] w Q) :
    px_Call E (d + 2) 0 0 mX10_hasRelation [.ref 61] w Q :=
  px_enter (k := 1) (by decide) (Nat.le_of_ble_eq_true rfl) rfl (px_forget (bX10_hasRelation_0 hw k1) ⟨Or.inr rfl, Or.inl rfl, trivial⟩)
theorem bX10_hasRelation_7 {E : px_E} {d : Nat} {w : pw_W} {Q : Option Value → pw_W → Prop} {t : ct_T} (hw : w.1 = cs t) {x1 : Int32}  
    (k1 : x1 < 0 → px_W E mX10_hasRelation (d + 2) 0 0 41 [.ref 61, .int x1] [] w Q)
    (k2 : ¬ x1 < 0 → px_W E mX10_hasRelation (d + 2) 0 0 11 [.ref 61, .int x1] [] w Q) :
    px_W E mX10_hasRelation (d + 2) 0 0 7 [.ref 61, .int x1] [] w Q := by
  refine px_iload_n dX10_hasRelation_7 rfl rfl ?_
  refine px_if_lt (tgt := 41) dX10_hasRelation_8 (by decide) (fun h1 => ?_) (fun h1 => ?_)
  ·
    exact (k1 h1)
  ·
    exact (k2 h1)
theorem bX10_hasRelation_11 {E : px_E} {d : Nat} {w : pw_W} {Q : Option Value → pw_W → Prop} {t : ct_T} (hw : w.1 = cs t) {x1 : Int32}  (j1 : Nat) (hj1 : x1 = nI j1) (hl1 : j1 < 160)
    (k1 : (pw_I w 68 j1) = 20 → px_W E mX10_hasRelation (d + 2) 0 0 41 [.ref 61, .int x1] [] w Q)
    (k2 : ¬ (pw_I w 68 j1) = 20 → px_W E mX10_hasRelation (d + 2) 0 0 22 [.ref 61, .int x1] [] w Q) :
    px_W E mX10_hasRelation (d + 2) 0 0 11 [.ref 61, .int x1] [] w Q := by
  refine px_aload_n dX10_hasRelation_11 rfl rfl ?_
  refine px_getR (v := 68) dX10_hasRelation_12 fr_10_33 rfl (px_sh1 hw sh_61) (px_rf hw rf_61_15) (by decide) ?_
  refine px_iload_n dX10_hasRelation_15 rfl rfl ?_
  refine px_iald dX10_hasRelation_16 (px_sh2 hw sh_68) (by decide) j1 hj1 hl1 ?_
  refine px_bipush dX10_hasRelation_17 bp_20 ?_
  refine px_icmp_eq (tgt := 41) dX10_hasRelation_19 (by decide) (fun h1 => ?_) (fun h1 => ?_)
  ·
    exact (k1 h1)
  ·
    exact (k2 h1)
theorem bX10_hasRelation_22 {E : px_E} {d : Nat} {w : pw_W} {Q : Option Value → pw_W → Prop} {t : ct_T} (hw : w.1 = cs t) {x1 : Int32}  (j1 : Nat) (hj1 : x1 = nI j1) (hl1 : j1 < 160)
    (k1 : (hX10_tight (pw_I w 68 j1)) ≤ 4 → px_W E mX10_hasRelation (d + 2) 0 0 41 [.ref 61, .int x1] [] w Q)
    (k2 : ¬ (hX10_tight (pw_I w 68 j1)) ≤ 4 → px_W E mX10_hasRelation (d + 2) 0 0 7 [.ref 61, .int (x1 + (-1))] [] w Q) :
    px_W E mX10_hasRelation (d + 2) 0 0 22 [.ref 61, .int x1] [] w Q := by
  refine px_aload_n dX10_hasRelation_22 rfl rfl ?_
  refine px_getR (v := 68) dX10_hasRelation_23 fr_10_33 rfl (px_sh1 hw sh_61) (px_rf hw rf_61_15) (by decide) ?_
  refine px_iload_n dX10_hasRelation_26 rfl rfl ?_
  refine px_iald dX10_hasRelation_27 (px_sh2 hw sh_68) (by decide) j1 hj1 hl1 ?_
  refine px_callS (As := [.int (pw_I w 68 j1)]) (st := []) (rc := 0) (rs := 0) (mc := 0) (ms := 0) dX10_hasRelation_28 lk_10_281 rfl rfl (Nat.le_of_ble_eq_true rfl) (sX10_tight ?_)
  show px_W E mX10_hasRelation (d + 2) 0 0 31 [.ref 61, .int x1] [.int (hX10_tight (pw_I w 68 j1))] w Q
  refine px_iconst dX10_hasRelation_31 ic_4 ?_
  refine px_icmp_le (tgt := 41) dX10_hasRelation_32 (by decide) (fun h1 => ?_) (fun h1 => ?_)
  ·
    exact (k1 h1)
  ·
    refine px_iinc (ls' := [.ref 61, .int (x1 + (-1))]) dX10_hasRelation_35 ⟨by decide, rfl⟩ rfl rfl rfl ?_
    refine px_goto (tgt := 7) dX10_hasRelation_38 (by decide) ?_
    exact (k2 h1)
theorem bX10_hasRelation_41 {E : px_E} {d : Nat} {w : pw_W} {Q : Option Value → pw_W → Prop} {t : ct_T} (hw : w.1 = cs t) {x1 : Int32}  
    (k1 : x1 < 0 → px_W E mX10_hasRelation (d + 2) 0 0 73 [.null, .null] [] w Q)
    (k2 : ¬ x1 < 0 → px_W E mX10_hasRelation (d + 2) 0 0 45 [.ref 61, .int x1] [] w Q) :
    px_W E mX10_hasRelation (d + 2) 0 0 41 [.ref 61, .int x1] [] w Q := by
  refine px_iload_n dX10_hasRelation_41 rfl rfl ?_
  refine px_if_lt (tgt := 73) dX10_hasRelation_42 (by decide) (fun h1 => ?_) (fun h1 => ?_)
  ·
    exact px_forget (k1 h1) ⟨Or.inl rfl, Or.inl rfl, trivial⟩
  ·
    exact (k2 h1)
theorem bX10_hasRelation_45 {E : px_E} {d : Nat} {w : pw_W} {Q : Option Value → pw_W → Prop} {t : ct_T} (hw : w.1 = cs t) {x1 : Int32}  (j1 : Nat) (hj1 : x1 = nI j1) (hl1 : j1 < 160)
    (k1 : (pw_I w 68 j1) = 20 → px_W E mX10_hasRelation (d + 2) 0 0 73 [.null, .null] [] w Q)
    (k2 : ¬ (pw_I w 68 j1) = 20 → px_W E mX10_hasRelation (d + 2) 0 0 56 [.ref 61, .int x1] [] w Q) :
    px_W E mX10_hasRelation (d + 2) 0 0 45 [.ref 61, .int x1] [] w Q := by
  refine px_aload_n dX10_hasRelation_45 rfl rfl ?_
  refine px_getR (v := 68) dX10_hasRelation_46 fr_10_33 rfl (px_sh1 hw sh_61) (px_rf hw rf_61_15) (by decide) ?_
  refine px_iload_n dX10_hasRelation_49 rfl rfl ?_
  refine px_iald dX10_hasRelation_50 (px_sh2 hw sh_68) (by decide) j1 hj1 hl1 ?_
  refine px_bipush dX10_hasRelation_51 bp_20 ?_
  refine px_icmp_eq (tgt := 73) dX10_hasRelation_53 (by decide) (fun h1 => ?_) (fun h1 => ?_)
  ·
    exact px_forget (k1 h1) ⟨Or.inl rfl, Or.inl rfl, trivial⟩
  ·
    exact (k2 h1)
theorem bX10_hasRelation_56 {E : px_E} {d : Nat} {w : pw_W} {Q : Option Value → pw_W → Prop} {t : ct_T} (hw : w.1 = cs t) {x1 : Int32}  (j1 : Nat) (hj1 : x1 = nI j1) (hl1 : j1 < 160)
    (k1 : ¬ (hX10_tight (pw_I w 68 j1)) = 4 → px_W E mX10_hasRelation (d + 2) 0 0 73 [.null, .null] [] w Q)
    (k2 : (hX10_tight (pw_I w 68 j1)) = 4 → px_W E mX10_hasRelation (d + 2) 0 0 74 [.null, .null] [.int 1] w Q) :
    px_W E mX10_hasRelation (d + 2) 0 0 56 [.ref 61, .int x1] [] w Q := by
  refine px_aload_n dX10_hasRelation_56 rfl rfl ?_
  refine px_getR (v := 68) dX10_hasRelation_57 fr_10_33 rfl (px_sh1 hw sh_61) (px_rf hw rf_61_15) (by decide) ?_
  refine px_iload_n dX10_hasRelation_60 rfl rfl ?_
  refine px_iald dX10_hasRelation_61 (px_sh2 hw sh_68) (by decide) j1 hj1 hl1 ?_
  refine px_forget (ls' := [.null, .null]) ?_ ⟨Or.inl rfl, Or.inl rfl, trivial⟩
  refine px_callS (As := [.int (pw_I w 68 j1)]) (st := []) (rc := 0) (rs := 0) (mc := 0) (ms := 0) dX10_hasRelation_62 lk_10_281 rfl rfl (Nat.le_of_ble_eq_true rfl) (sX10_tight ?_)
  show px_W E mX10_hasRelation (d + 2) 0 0 65 [.null, .null] [.int (hX10_tight (pw_I w 68 j1))] w Q
  refine px_iconst dX10_hasRelation_65 ic_4 ?_
  refine px_icmp_ne (tgt := 73) dX10_hasRelation_66 (by decide) (fun h1 => ?_) (fun h1 => ?_)
  ·
    exact (k1 h1)
  ·
    refine px_iconst dX10_hasRelation_69 ic_1 ?_
    refine px_goto (tgt := 74) dX10_hasRelation_70 (by decide) ?_
    exact (k2 h1)
theorem bX10_hasRelation_73 {E : px_E} {d : Nat} {w : pw_W} {Q : Option Value → pw_W → Prop} {t : ct_T} (hw : w.1 = cs t)  
    (k1 : px_W E mX10_hasRelation (d + 2) 0 0 74 [.null, .null] [.int 0] w Q) :
    px_W E mX10_hasRelation (d + 2) 0 0 73 [.null, .null] [] w Q := by
  refine px_iconst dX10_hasRelation_73 ic_0 ?_
  exact k1
theorem bX10_hasRelation_74 {E : px_E} {d : Nat} {w : pw_W} {Q : Option Value → pw_W → Prop} {t : ct_T} (hw : w.1 = cs t) {y0 : Int32}  (hb1 : y0 = 0 ∨ y0 = 1)
    (k1 : Q (some (.int y0)) w) :
    px_W E mX10_hasRelation (d + 2) 0 0 74 [.null, .null] [.int y0] w Q := by
  exact px_ireturn dX10_hasRelation_74 rfl (px_nb (hb1)) k1
theorem dX10_mayNot_0 : decode mX10_mayNot.2.1 0 = .ok (.aload_n 0, 1) := by decide +kernel
theorem dX10_mayNot_1 : decode mX10_mayNot.2.1 1 = .ok (.getfield 278, 3) := by decide +kernel
theorem dX10_mayNot_4 : decode mX10_mayNot.2.1 4 = .ok (.ifCond .eq 37, 3) := by decide +kernel
theorem dX10_mayNot_7 : decode mX10_mayNot.2.1 7 = .ok (.aload_n 0, 1) := by decide +kernel
theorem dX10_mayNot_8 : decode mX10_mayNot.2.1 8 = .ok (.getfield 33, 3) := by decide +kernel
theorem dX10_mayNot_11 : decode mX10_mayNot.2.1 11 = .ok (.aload_n 0, 1) := by decide +kernel
theorem dX10_mayNot_12 : decode mX10_mayNot.2.1 12 = .ok (.getfield 278, 3) := by decide +kernel
theorem dX10_mayNot_15 : decode mX10_mayNot.2.1 15 = .ok (.iconst 1, 1) := by decide +kernel
theorem dX10_mayNot_16 : decode mX10_mayNot.2.1 16 = .ok (.isub, 1) := by decide +kernel
theorem dX10_mayNot_17 : decode mX10_mayNot.2.1 17 = .ok (.iaload, 1) := by decide +kernel
theorem dX10_mayNot_18 : decode mX10_mayNot.2.1 18 = .ok (.bipush 20, 2) := by decide +kernel
theorem dX10_mayNot_20 : decode mX10_mayNot.2.1 20 = .ok (.if_icmp .eq 21, 3) := by decide +kernel
theorem dX10_mayNot_23 : decode mX10_mayNot.2.1 23 = .ok (.aload_n 0, 1) := by decide +kernel
theorem dX10_mayNot_24 : decode mX10_mayNot.2.1 24 = .ok (.getfield 33, 3) := by decide +kernel
theorem dX10_mayNot_27 : decode mX10_mayNot.2.1 27 = .ok (.aload_n 0, 1) := by decide +kernel
theorem dX10_mayNot_28 : decode mX10_mayNot.2.1 28 = .ok (.getfield 278, 3) := by decide +kernel
theorem dX10_mayNot_31 : decode mX10_mayNot.2.1 31 = .ok (.iconst 1, 1) := by decide +kernel
theorem dX10_mayNot_32 : decode mX10_mayNot.2.1 32 = .ok (.isub, 1) := by decide +kernel
theorem dX10_mayNot_33 : decode mX10_mayNot.2.1 33 = .ok (.iaload, 1) := by decide +kernel
theorem dX10_mayNot_34 : decode mX10_mayNot.2.1 34 = .ok (.invokestatic 281, 3) := by decide +kernel
theorem dX10_mayNot_37 : decode mX10_mayNot.2.1 37 = .ok (.iconst 4, 1) := by decide +kernel
theorem dX10_mayNot_38 : decode mX10_mayNot.2.1 38 = .ok (.if_icmp .ge 7, 3) := by decide +kernel
theorem dX10_mayNot_41 : decode mX10_mayNot.2.1 41 = .ok (.iconst 1, 1) := by decide +kernel
theorem dX10_mayNot_42 : decode mX10_mayNot.2.1 42 = .ok (.goto 4, 3) := by decide +kernel
theorem dX10_mayNot_45 : decode mX10_mayNot.2.1 45 = .ok (.iconst 0, 1) := by decide +kernel
theorem dX10_mayNot_46 : decode mX10_mayNot.2.1 46 = .ok (.ireturn, 1) := by decide +kernel
theorem bX10_mayNot_0 {E : px_E} {d : Nat} {w : pw_W} {Q : Option Value → pw_W → Prop} {t : ct_T} (hw : w.1 = cs t)  
    (k1 : (pw_I w 61 19) = 0 → px_W E mX10_mayNot (d + 2) 0 0 41 [.null] [] w Q)
    (k2 : ¬ (pw_I w 61 19) = 0 → px_W E mX10_mayNot (d + 2) 0 0 7 [.ref 61] [] w Q) :
    px_W E mX10_mayNot (d + 2) 0 0 0 [.ref 61] [] w Q := by
  refine px_aload_n dX10_mayNot_0 rfl rfl ?_
  refine px_getI dX10_mayNot_1 fr_10_278 rfl (px_sh1 hw sh_61) ?_
  refine px_if_eq (tgt := 41) dX10_mayNot_4 (by decide) (fun h1 => ?_) (fun h1 => ?_)
  ·
    exact px_forget (k1 h1) ⟨Or.inl rfl, trivial⟩
  ·
    exact (k2 h1)
theorem eX10_mayNot {E : px_E} {d : Nat} {w : pw_W} {Q : Option Value → pw_W → Prop} {t : ct_T} (hw : w.1 = cs t)  
    (k1 : (pw_I w 61 19) = 0 → px_W E mX10_mayNot (d + 2) 0 0 41 [.null] [] w Q)
    (k2 : ¬ (pw_I w 61 19) = 0 → px_W E mX10_mayNot (d + 2) 0 0 7 [.ref 61] [] w Q) :
    px_Call E (d + 2) 0 0 mX10_mayNot [.ref 61] w Q :=
  px_enter (k := 0) (by decide) (Nat.le_of_ble_eq_true rfl) rfl (px_forget (bX10_mayNot_0 hw k1 k2) ⟨Or.inr rfl, trivial⟩)
theorem bX10_mayNot_7 {E : px_E} {d : Nat} {w : pw_W} {Q : Option Value → pw_W → Prop} {t : ct_T} (hw : w.1 = cs t)  (j1 : Nat) (hj1 : ((pw_I w 61 19) - 1) = nI j1) (hl1 : j1 < 160)
    (k1 : (pw_I w 68 j1) = 20 → px_W E mX10_mayNot (d + 2) 0 0 41 [.null] [] w Q)
    (k2 : ¬ (pw_I w 68 j1) = 20 → px_W E mX10_mayNot (d + 2) 0 0 23 [.ref 61] [] w Q) :
    px_W E mX10_mayNot (d + 2) 0 0 7 [.ref 61] [] w Q := by
  refine px_aload_n dX10_mayNot_7 rfl rfl ?_
  refine px_getR (v := 68) dX10_mayNot_8 fr_10_33 rfl (px_sh1 hw sh_61) (px_rf hw rf_61_15) (by decide) ?_
  refine px_aload_n dX10_mayNot_11 rfl rfl ?_
  refine px_getI dX10_mayNot_12 fr_10_278 rfl (px_sh1 hw sh_61) ?_
  refine px_iconst dX10_mayNot_15 ic_1 ?_
  refine px_isub dX10_mayNot_16 ?_
  refine px_iald dX10_mayNot_17 (px_sh2 hw sh_68) (by decide) j1 hj1 hl1 ?_
  refine px_bipush dX10_mayNot_18 bp_20 ?_
  refine px_icmp_eq (tgt := 41) dX10_mayNot_20 (by decide) (fun h1 => ?_) (fun h1 => ?_)
  ·
    exact px_forget (k1 h1) ⟨Or.inl rfl, trivial⟩
  ·
    exact (k2 h1)
theorem bX10_mayNot_23 {E : px_E} {d : Nat} {w : pw_W} {Q : Option Value → pw_W → Prop} {t : ct_T} (hw : w.1 = cs t)  (j1 : Nat) (hj1 : ((pw_I w 61 19) - 1) = nI j1) (hl1 : j1 < 160)
    (k1 : 4 ≤ (hX10_tight (pw_I w 68 j1)) → px_W E mX10_mayNot (d + 2) 0 0 46 [.null] [.int 0] w Q)
    (k2 : ¬ 4 ≤ (hX10_tight (pw_I w 68 j1)) → px_W E mX10_mayNot (d + 2) 0 0 41 [.null] [] w Q) :
    px_W E mX10_mayNot (d + 2) 0 0 23 [.ref 61] [] w Q := by
  refine px_aload_n dX10_mayNot_23 rfl rfl ?_
  refine px_getR (v := 68) dX10_mayNot_24 fr_10_33 rfl (px_sh1 hw sh_61) (px_rf hw rf_61_15) (by decide) ?_
  refine px_aload_n dX10_mayNot_27 rfl rfl ?_
  refine px_getI dX10_mayNot_28 fr_10_278 rfl (px_sh1 hw sh_61) ?_
  refine px_iconst dX10_mayNot_31 ic_1 ?_
  refine px_isub dX10_mayNot_32 ?_
  refine px_iald dX10_mayNot_33 (px_sh2 hw sh_68) (by decide) j1 hj1 hl1 ?_
  refine px_forget (ls' := [.null]) ?_ ⟨Or.inl rfl, trivial⟩
  refine px_callS (As := [.int (pw_I w 68 j1)]) (st := []) (rc := 0) (rs := 0) (mc := 0) (ms := 0) dX10_mayNot_34 lk_10_281 rfl rfl (Nat.le_of_ble_eq_true rfl) (sX10_tight ?_)
  show px_W E mX10_mayNot (d + 2) 0 0 37 [.null] [.int (hX10_tight (pw_I w 68 j1))] w Q
  refine px_iconst dX10_mayNot_37 ic_4 ?_
  refine px_icmp_ge (tgt := 45) dX10_mayNot_38 (by decide) (fun h1 => ?_) (fun h1 => ?_)
  ·
    refine px_iconst dX10_mayNot_45 ic_0 ?_
    exact (k1 h1)
  ·
    exact (k2 h1)
theorem bX10_mayNot_41 {E : px_E} {d : Nat} {w : pw_W} {Q : Option Value → pw_W → Prop} {t : ct_T} (hw : w.1 = cs t)  
    (k1 : px_W E mX10_mayNot (d + 2) 0 0 46 [.null] [.int 1] w Q) :
    px_W E mX10_mayNot (d + 2) 0 0 41 [.null] [] w Q := by
  refine px_iconst dX10_mayNot_41 ic_1 ?_
  refine px_goto (tgt := 46) dX10_mayNot_42 (by decide) ?_
  exact k1
theorem bX10_mayNot_46 {E : px_E} {d : Nat} {w : pw_W} {Q : Option Value → pw_W → Prop} {t : ct_T} (hw : w.1 = cs t) {y0 : Int32}  (hb1 : y0 = 0 ∨ y0 = 1)
    (k1 : Q (some (.int y0)) w) :
    px_W E mX10_mayNot (d + 2) 0 0 46 [.null] [.int y0] w Q := by
  exact px_ireturn dX10_mayNot_46 rfl (px_nb (hb1)) k1
theorem dX10_countUnit_0 : decode mX10_countUnit.2.1 0 = .ok (.aload_n 0, 1) := by decide +kernel
theorem dX10_countUnit_1 : decode mX10_countUnit.2.1 1 = .ok (.dup, 1) := by decide +kernel
theorem dX10_countUnit_2 : decode mX10_countUnit.2.1 2 = .ok (.getfield 291, 3) := by decide +kernel
theorem dX10_countUnit_5 : decode mX10_countUnit.2.1 5 = .ok (.iconst 1, 1) := by decide +kernel
theorem dX10_countUnit_6 : decode mX10_countUnit.2.1 6 = .ok (.iadd, 1) := by decide +kernel
theorem dX10_countUnit_7 : decode mX10_countUnit.2.1 7 = .ok (.putfield 291, 3) := by decide +kernel
theorem dX10_countUnit_10 : decode mX10_countUnit.2.1 10 = .ok (.aload_n 0, 1) := by decide +kernel
theorem dX10_countUnit_11 : decode mX10_countUnit.2.1 11 = .ok (.dup, 1) := by decide +kernel
theorem dX10_countUnit_12 : decode mX10_countUnit.2.1 12 = .ok (.getfield 294, 3) := by decide +kernel
theorem dX10_countUnit_15 : decode mX10_countUnit.2.1 15 = .ok (.iconst 1, 1) := by decide +kernel
theorem dX10_countUnit_16 : decode mX10_countUnit.2.1 16 = .ok (.iadd, 1) := by decide +kernel
theorem dX10_countUnit_17 : decode mX10_countUnit.2.1 17 = .ok (.putfield 294, 3) := by decide +kernel
theorem dX10_countUnit_20 : decode mX10_countUnit.2.1 20 = .ok (.return_, 1) := by decide +kernel
theorem bX10_countUnit_0 {E : px_E} {d : Nat} {w : pw_W} {Q : Option Value → pw_W → Prop} {t : ct_T} (hw : w.1 = cs t)  
    (k1 : Q none (pw_sI (pw_sI w 61 20 ((pw_I w 61 20) + 1)) 61 22 ((pw_I w 61 22) + 1))) :
    px_W E mX10_countUnit (d + 1) 0 0 0 [.ref 61] [] w Q := by
  refine px_aload_n dX10_countUnit_0 rfl rfl ?_
  refine px_dup dX10_countUnit_1 rfl ?_
  refine px_getI dX10_countUnit_2 fr_10_291 rfl (px_sh1 hw sh_61) ?_
  refine px_iconst dX10_countUnit_5 ic_1 ?_
  refine px_iadd dX10_countUnit_6 ?_
  refine px_putI dX10_countUnit_7 fl_10_291 (Or.inl rfl) rfl (px_sh1 hw sh_61) rfl rfl (by omega) ?_
  refine px_aload_n dX10_countUnit_10 rfl rfl ?_
  refine px_dup dX10_countUnit_11 rfl ?_
  refine px_getIv (v := (pw_I w 61 22)) dX10_countUnit_12 fr_10_294 rfl (px_sh1 (hI hw) sh_61) rfl ?_
  refine px_iconst dX10_countUnit_15 ic_1 ?_
  refine px_iadd dX10_countUnit_16 ?_
  refine px_putI dX10_countUnit_17 fl_10_294 (Or.inl rfl) rfl (px_sh1 (hI hw) sh_61) rfl rfl (by omega) ?_
  exact px_return dX10_countUnit_20 rfl k1
theorem eX10_countUnit {E : px_E} {d : Nat} {w : pw_W} {Q : Option Value → pw_W → Prop} {t : ct_T} (hw : w.1 = cs t)  
    (k1 : Q none (pw_sI (pw_sI w 61 20 ((pw_I w 61 20) + 1)) 61 22 ((pw_I w 61 22) + 1))) :
    px_Call E (d + 1) 0 0 mX10_countUnit [.ref 61] w Q :=
  px_enter (k := 0) (by decide) (Nat.le_of_ble_eq_true rfl) rfl (px_forget (bX10_countUnit_0 hw k1) ⟨Or.inr rfl, trivial⟩)
theorem dX10_openUp_0 : decode mX10_openUp.2.1 0 = .ok (.aload_n 0, 1) := by decide +kernel
theorem dX10_openUp_1 : decode mX10_openUp.2.1 1 = .ok (.getfield 33, 3) := by decide +kernel
theorem dX10_openUp_4 : decode mX10_openUp.2.1 4 = .ok (.aload_n 0, 1) := by decide +kernel
theorem dX10_openUp_5 : decode mX10_openUp.2.1 5 = .ok (.getfield 278, 3) := by decide +kernel
theorem dX10_openUp_8 : decode mX10_openUp.2.1 8 = .ok (.iload_n 1, 1) := by decide +kernel
theorem dX10_openUp_9 : decode mX10_openUp.2.1 9 = .ok (.iastore, 1) := by decide +kernel
theorem dX10_openUp_10 : decode mX10_openUp.2.1 10 = .ok (.aload_n 0, 1) := by decide +kernel
theorem dX10_openUp_11 : decode mX10_openUp.2.1 11 = .ok (.dup, 1) := by decide +kernel
theorem dX10_openUp_12 : decode mX10_openUp.2.1 12 = .ok (.getfield 278, 3) := by decide +kernel
theorem dX10_openUp_15 : decode mX10_openUp.2.1 15 = .ok (.iconst 1, 1) := by decide +kernel
theorem dX10_openUp_16 : decode mX10_openUp.2.1 16 = .ok (.iadd, 1) := by decide +kernel
theorem dX10_openUp_17 : decode mX10_openUp.2.1 17 = .ok (.putfield 278, 3) := by decide +kernel
theorem dX10_openUp_20 : decode mX10_openUp.2.1 20 = .ok (.aload_n 0, 1) := by decide +kernel
theorem dX10_openUp_21 : decode mX10_openUp.2.1 21 = .ok (.dup, 1) := by decide +kernel
theorem dX10_openUp_22 : decode mX10_openUp.2.1 22 = .ok (.getfield 288, 3) := by decide +kernel
theorem dX10_openUp_25 : decode mX10_openUp.2.1 25 = .ok (.iconst 1, 1) := by decide +kernel
theorem dX10_openUp_26 : decode mX10_openUp.2.1 26 = .ok (.iadd, 1) := by decide +kernel
theorem dX10_openUp_27 : decode mX10_openUp.2.1 27 = .ok (.putfield 288, 3) := by decide +kernel
theorem dX10_openUp_30 : decode mX10_openUp.2.1 30 = .ok (.aload_n 0, 1) := by decide +kernel
theorem dX10_openUp_31 : decode mX10_openUp.2.1 31 = .ok (.getfield 197, 3) := by decide +kernel
theorem dX10_openUp_34 : decode mX10_openUp.2.1 34 = .ok (.ifCond .ne 7, 3) := by decide +kernel
theorem dX10_openUp_37 : decode mX10_openUp.2.1 37 = .ok (.aload_n 0, 1) := by decide +kernel
theorem dX10_openUp_38 : decode mX10_openUp.2.1 38 = .ok (.invokevirtual 251, 3) := by decide +kernel
theorem dX10_openUp_41 : decode mX10_openUp.2.1 41 = .ok (.return_, 1) := by decide +kernel
theorem bX10_openUp_0 {E : px_E} {d : Nat} {w : pw_W} {Q : Option Value → pw_W → Prop} {t : ct_T} (hw : w.1 = cs t) {x1 : Int32}  (j1 : Nat) (hj1 : (pw_I w 61 19) = nI j1) (hl1 : j1 < 160)
    (k1 : ¬ (pw_I w 61 2) = 0 → px_W E mX10_openUp (d + 1) 0 0 41 [.null, .null] [] (pw_sI (pw_sI (pw_sI w 68 j1 x1) 61 19 ((pw_I w 61 19) + 1)) 61 23 ((pw_I w 61 23) + 1)) Q)
    (k2 : (pw_I w 61 2) = 0 → px_Call E d 0 0 mX10_token [.ref 61] (pw_sI (pw_sI (pw_sI w 68 j1 x1) 61 19 ((pw_I w 61 19) + 1)) 61 23 ((pw_I w 61 23) + 1)) (fun v w' => px_W E mX10_openUp (d + 1) 0 0 41 [.null, .null] (v.toList ++ []) w' Q)) :
    px_W E mX10_openUp (d + 1) 0 0 0 [.ref 61, .int x1] [] w Q := by
  refine px_aload_n dX10_openUp_0 rfl rfl ?_
  refine px_getR (v := 68) dX10_openUp_1 fr_10_33 rfl (px_sh1 hw sh_61) (px_rf hw rf_61_15) (by decide) ?_
  refine px_aload_n dX10_openUp_4 rfl rfl ?_
  refine px_getI dX10_openUp_5 fr_10_278 rfl (px_sh1 hw sh_61) ?_
  refine px_iload_n dX10_openUp_8 rfl rfl ?_
  refine px_iast dX10_openUp_9 (px_sh2 hw sh_68) (by decide) j1 hj1 hl1 (by omega) ?_
  refine px_aload_n dX10_openUp_10 rfl rfl ?_
  refine px_dup dX10_openUp_11 rfl ?_
  refine px_getIv (v := (pw_I w 61 19)) dX10_openUp_12 fr_10_278 rfl (px_sh1 (hI hw) sh_61) rfl ?_
  refine px_iconst dX10_openUp_15 ic_1 ?_
  refine px_iadd dX10_openUp_16 ?_
  refine px_putI dX10_openUp_17 fl_10_278 (Or.inl rfl) rfl (px_sh1 (hI hw) sh_61) rfl rfl (by omega) ?_
  refine px_aload_n dX10_openUp_20 rfl rfl ?_
  refine px_dup dX10_openUp_21 rfl ?_
  refine px_getIv (v := (pw_I w 61 23)) dX10_openUp_22 fr_10_288 rfl (px_sh1 (hI (hI hw)) sh_61) rfl ?_
  refine px_iconst dX10_openUp_25 ic_1 ?_
  refine px_iadd dX10_openUp_26 ?_
  refine px_putI dX10_openUp_27 fl_10_288 (Or.inl rfl) rfl (px_sh1 (hI (hI hw)) sh_61) rfl rfl (by omega) ?_
  refine px_aload_n dX10_openUp_30 rfl rfl ?_
  refine px_getIv (v := (pw_I w 61 2)) dX10_openUp_31 fr_10_197 rfl (px_sh1 (hI (hI (hI hw))) sh_61) rfl ?_
  refine px_if_ne (tgt := 41) dX10_openUp_34 (by decide) (fun h1 => ?_) (fun h1 => ?_)
  ·
    exact px_forget (k1 h1) ⟨Or.inl rfl, Or.inl rfl, trivial⟩
  ·
    refine px_aload_n dX10_openUp_37 rfl rfl ?_
    refine px_forget (ls' := [.null, .null]) ?_ ⟨Or.inl rfl, Or.inl rfl, trivial⟩
    exact px_callV (As := []) (st := []) (rc := 0) (rs := 0) (mc := 0) (ms := 0) dX10_openUp_38 lk_10_251 (px_sh1 (hI (hI (hI hw))) sh_61) rfl rfl (Nat.le_of_ble_eq_true rfl) (k2 h1)
theorem eX10_openUp {E : px_E} {d : Nat} {w : pw_W} {Q : Option Value → pw_W → Prop} {t : ct_T} (hw : w.1 = cs t) {x1 : Int32}  (j1 : Nat) (hj1 : (pw_I w 61 19) = nI j1) (hl1 : j1 < 160)
    (k1 : ¬ (pw_I w 61 2) = 0 → px_W E mX10_openUp (d + 1) 0 0 41 [.null, .null] [] (pw_sI (pw_sI (pw_sI w 68 j1 x1) 61 19 ((pw_I w 61 19) + 1)) 61 23 ((pw_I w 61 23) + 1)) Q)
    (k2 : (pw_I w 61 2) = 0 → px_Call E d 0 0 mX10_token [.ref 61] (pw_sI (pw_sI (pw_sI w 68 j1 x1) 61 19 ((pw_I w 61 19) + 1)) 61 23 ((pw_I w 61 23) + 1)) (fun v w' => px_W E mX10_openUp (d + 1) 0 0 41 [.null, .null] (v.toList ++ []) w' Q)) :
    px_Call E (d + 1) 0 0 mX10_openUp [.ref 61, .int x1] w Q :=
  px_enter (k := 0) (by decide) (Nat.le_of_ble_eq_true rfl) rfl (px_forget (bX10_openUp_0 hw j1 hj1 hl1 k1 k2) ⟨Or.inr rfl, Or.inr rfl, trivial⟩)
theorem bX10_openUp_41 {E : px_E} {d : Nat} {w : pw_W} {Q : Option Value → pw_W → Prop} {t : ct_T} (hw : w.1 = cs t)  
    (k1 : Q none w) :
    px_W E mX10_openUp (d + 1) 0 0 41 [.null, .null] [] w Q := by
  exact px_return dX10_openUp_41 rfl k1
theorem dX10_unit_0 : decode mX10_unit.2.1 0 = .ok (.iconst 1, 1) := by decide +kernel
theorem dX10_unit_1 : decode mX10_unit.2.1 1 = .ok (.istore_n 1, 1) := by decide +kernel
theorem dX10_unit_2 : decode mX10_unit.2.1 2 = .ok (.iload_n 1, 1) := by decide +kernel
theorem dX10_unit_3 : decode mX10_unit.2.1 3 = .ok (.ifCond .eq 98, 3) := by decide +kernel
theorem dX10_unit_6 : decode mX10_unit.2.1 6 = .ok (.aload_n 0, 1) := by decide +kernel
theorem dX10_unit_7 : decode mX10_unit.2.1 7 = .ok (.getfield 197, 3) := by decide +kernel
theorem dX10_unit_10 : decode mX10_unit.2.1 10 = .ok (.ifCond .ne 91, 3) := by decide +kernel
theorem dX10_unit_13 : decode mX10_unit.2.1 13 = .ok (.aload_n 0, 1) := by decide +kernel
theorem dX10_unit_14 : decode mX10_unit.2.1 14 = .ok (.ldc2_w 238, 3) := by decide +kernel
theorem dX10_unit_17 : decode mX10_unit.2.1 17 = .ok (.invokevirtual 244, 3) := by decide +kernel
theorem dX10_unit_20 : decode mX10_unit.2.1 20 = .ok (.ifCond .eq 33, 3) := by decide +kernel
theorem dX10_unit_23 : decode mX10_unit.2.1 23 = .ok (.aload_n 0, 1) := by decide +kernel
theorem dX10_unit_24 : decode mX10_unit.2.1 24 = .ok (.invokevirtual 297, 3) := by decide +kernel
theorem dX10_unit_27 : decode mX10_unit.2.1 27 = .ok (.ifCond .eq 26, 3) := by decide +kernel
theorem dX10_unit_30 : decode mX10_unit.2.1 30 = .ok (.aload_n 0, 1) := by decide +kernel
theorem dX10_unit_31 : decode mX10_unit.2.1 31 = .ok (.getfield 288, 3) := by decide +kernel
theorem dX10_unit_34 : decode mX10_unit.2.1 34 = .ok (.bipush 6, 2) := by decide +kernel
theorem dX10_unit_36 : decode mX10_unit.2.1 36 = .ok (.if_icmp .le 8, 3) := by decide +kernel
theorem dX10_unit_39 : decode mX10_unit.2.1 39 = .ok (.aload_n 0, 1) := by decide +kernel
theorem dX10_unit_40 : decode mX10_unit.2.1 40 = .ok (.iconst 2, 1) := by decide +kernel
theorem dX10_unit_41 : decode mX10_unit.2.1 41 = .ok (.invokevirtual 248, 3) := by decide +kernel
theorem dX10_unit_44 : decode mX10_unit.2.1 44 = .ok (.aload_n 0, 1) := by decide +kernel
theorem dX10_unit_45 : decode mX10_unit.2.1 45 = .ok (.bipush 21, 2) := by decide +kernel
theorem dX10_unit_47 : decode mX10_unit.2.1 47 = .ok (.invokevirtual 300, 3) := by decide +kernel
theorem dX10_unit_50 : decode mX10_unit.2.1 50 = .ok (.goto (-48), 3) := by decide +kernel
theorem dX10_unit_53 : decode mX10_unit.2.1 53 = .ok (.aload_n 0, 1) := by decide +kernel
theorem dX10_unit_54 : decode mX10_unit.2.1 54 = .ok (.getfield 184, 3) := by decide +kernel
theorem dX10_unit_57 : decode mX10_unit.2.1 57 = .ok (.bipush 40, 2) := by decide +kernel
theorem dX10_unit_59 : decode mX10_unit.2.1 59 = .ok (.if_icmp .ne 37, 3) := by decide +kernel
theorem dX10_unit_62 : decode mX10_unit.2.1 62 = .ok (.aload_n 0, 1) := by decide +kernel
theorem dX10_unit_63 : decode mX10_unit.2.1 63 = .ok (.invokevirtual 303, 3) := by decide +kernel
theorem dX10_unit_66 : decode mX10_unit.2.1 66 = .ok (.ifCond .ne 12, 3) := by decide +kernel
theorem dX10_unit_69 : decode mX10_unit.2.1 69 = .ok (.aload_n 0, 1) := by decide +kernel
theorem dX10_unit_70 : decode mX10_unit.2.1 70 = .ok (.getfield 288, 3) := by decide +kernel
theorem dX10_unit_73 : decode mX10_unit.2.1 73 = .ok (.bipush 6, 2) := by decide +kernel
theorem dX10_unit_75 : decode mX10_unit.2.1 75 = .ok (.if_icmp .le 8, 3) := by decide +kernel
theorem dX10_unit_78 : decode mX10_unit.2.1 78 = .ok (.aload_n 0, 1) := by decide +kernel
theorem dX10_unit_79 : decode mX10_unit.2.1 79 = .ok (.iconst 2, 1) := by decide +kernel
theorem dX10_unit_80 : decode mX10_unit.2.1 80 = .ok (.invokevirtual 248, 3) := by decide +kernel
theorem dX10_unit_83 : decode mX10_unit.2.1 83 = .ok (.aload_n 0, 1) := by decide +kernel
theorem dX10_unit_84 : decode mX10_unit.2.1 84 = .ok (.invokevirtual 306, 3) := by decide +kernel
theorem dX10_unit_87 : decode mX10_unit.2.1 87 = .ok (.aload_n 0, 1) := by decide +kernel
theorem dX10_unit_88 : decode mX10_unit.2.1 88 = .ok (.bipush 20, 2) := by decide +kernel
theorem dX10_unit_90 : decode mX10_unit.2.1 90 = .ok (.invokevirtual 300, 3) := by decide +kernel
theorem dX10_unit_93 : decode mX10_unit.2.1 93 = .ok (.goto (-91), 3) := by decide +kernel
theorem dX10_unit_96 : decode mX10_unit.2.1 96 = .ok (.iconst 0, 1) := by decide +kernel
theorem dX10_unit_97 : decode mX10_unit.2.1 97 = .ok (.istore_n 1, 1) := by decide +kernel
theorem dX10_unit_98 : decode mX10_unit.2.1 98 = .ok (.goto (-96), 3) := by decide +kernel
theorem dX10_unit_101 : decode mX10_unit.2.1 101 = .ok (.aload_n 0, 1) := by decide +kernel
theorem dX10_unit_102 : decode mX10_unit.2.1 102 = .ok (.getfield 197, 3) := by decide +kernel
theorem dX10_unit_105 : decode mX10_unit.2.1 105 = .ok (.ifCond .le 4, 3) := by decide +kernel
theorem dX10_unit_108 : decode mX10_unit.2.1 108 = .ok (.return_, 1) := by decide +kernel
theorem dX10_unit_109 : decode mX10_unit.2.1 109 = .ok (.aload_n 0, 1) := by decide +kernel
theorem dX10_unit_110 : decode mX10_unit.2.1 110 = .ok (.invokevirtual 309, 3) := by decide +kernel
theorem dX10_unit_113 : decode mX10_unit.2.1 113 = .ok (.istore_n 2, 1) := by decide +kernel
theorem dX10_unit_114 : decode mX10_unit.2.1 114 = .ok (.aload_n 0, 1) := by decide +kernel
theorem dX10_unit_115 : decode mX10_unit.2.1 115 = .ok (.getfield 184, 3) := by decide +kernel
theorem dX10_unit_118 : decode mX10_unit.2.1 118 = .ok (.iconst 2, 1) := by decide +kernel
theorem dX10_unit_119 : decode mX10_unit.2.1 119 = .ok (.if_icmp .eq 7, 3) := by decide +kernel
theorem dX10_unit_122 : decode mX10_unit.2.1 122 = .ok (.iload_n 2, 1) := by decide +kernel
theorem dX10_unit_123 : decode mX10_unit.2.1 123 = .ok (.ifCond .lt 10, 3) := by decide +kernel
theorem dX10_unit_126 : decode mX10_unit.2.1 126 = .ok (.aload_n 0, 1) := by decide +kernel
theorem dX10_unit_127 : decode mX10_unit.2.1 127 = .ok (.invokevirtual 303, 3) := by decide +kernel
theorem dX10_unit_130 : decode mX10_unit.2.1 130 = .ok (.ifCond .eq 8, 3) := by decide +kernel
theorem dX10_unit_133 : decode mX10_unit.2.1 133 = .ok (.aload_n 0, 1) := by decide +kernel
theorem dX10_unit_134 : decode mX10_unit.2.1 134 = .ok (.iconst 2, 1) := by decide +kernel
theorem dX10_unit_135 : decode mX10_unit.2.1 135 = .ok (.invokevirtual 248, 3) := by decide +kernel
theorem dX10_unit_138 : decode mX10_unit.2.1 138 = .ok (.aload_n 0, 1) := by decide +kernel
theorem dX10_unit_139 : decode mX10_unit.2.1 139 = .ok (.getfield 197, 3) := by decide +kernel
theorem dX10_unit_142 : decode mX10_unit.2.1 142 = .ok (.ifCond .le 4, 3) := by decide +kernel
theorem dX10_unit_145 : decode mX10_unit.2.1 145 = .ok (.return_, 1) := by decide +kernel
theorem dX10_unit_146 : decode mX10_unit.2.1 146 = .ok (.aload_n 0, 1) := by decide +kernel
theorem dX10_unit_147 : decode mX10_unit.2.1 147 = .ok (.invokevirtual 306, 3) := by decide +kernel
theorem dX10_unit_150 : decode mX10_unit.2.1 150 = .ok (.aload_n 0, 1) := by decide +kernel
theorem dX10_unit_151 : decode mX10_unit.2.1 151 = .ok (.iload_n 2, 1) := by decide +kernel
theorem dX10_unit_152 : decode mX10_unit.2.1 152 = .ok (.ifCond .ge 7, 3) := by decide +kernel
theorem dX10_unit_155 : decode mX10_unit.2.1 155 = .ok (.iconst 0, 1) := by decide +kernel
theorem dX10_unit_156 : decode mX10_unit.2.1 156 = .ok (.goto 4, 3) := by decide +kernel
theorem dX10_unit_159 : decode mX10_unit.2.1 159 = .ok (.iconst 1, 1) := by decide +kernel
theorem dX10_unit_160 : decode mX10_unit.2.1 160 = .ok (.iload_n 2, 1) := by decide +kernel
theorem dX10_unit_161 : decode mX10_unit.2.1 161 = .ok (.ifCond .ge 10, 3) := by decide +kernel
theorem dX10_unit_164 : decode mX10_unit.2.1 164 = .ok (.aload_n 0, 1) := by decide +kernel
theorem dX10_unit_165 : decode mX10_unit.2.1 165 = .ok (.getfield 181, 3) := by decide +kernel
theorem dX10_unit_168 : decode mX10_unit.2.1 168 = .ok (.goto 4, 3) := by decide +kernel
theorem dX10_unit_171 : decode mX10_unit.2.1 171 = .ok (.iload_n 2, 1) := by decide +kernel
theorem dX10_unit_172 : decode mX10_unit.2.1 172 = .ok (.invokevirtual 284, 3) := by decide +kernel
theorem dX10_unit_175 : decode mX10_unit.2.1 175 = .ok (.aload_n 0, 1) := by decide +kernel
theorem dX10_unit_176 : decode mX10_unit.2.1 176 = .ok (.invokevirtual 251, 3) := by decide +kernel
theorem dX10_unit_179 : decode mX10_unit.2.1 179 = .ok (.return_, 1) := by decide +kernel
theorem bX10_unit_0 {E : px_E} {d : Nat} {w : pw_W} {Q : Option Value → pw_W → Prop} {t : ct_T} (hw : w.1 = cs t)  
    (k1 : px_W E mX10_unit (d + 2) 0 0 2 [.ref 61, .int 1, .null] [] w Q) :
    px_W E mX10_unit (d + 2) 0 0 0 [.ref 61, .null, .null] [] w Q := by
  refine px_iconst dX10_unit_0 ic_1 ?_
  refine px_istore_n (ls' := [.ref 61, .int 1, .null]) dX10_unit_1 rfl ⟨by decide, rfl⟩ rfl ?_
  exact k1
theorem eX10_unit {E : px_E} {d : Nat} {w : pw_W} {Q : Option Value → pw_W → Prop} {t : ct_T} (hw : w.1 = cs t)  
    (k1 : px_W E mX10_unit (d + 2) 0 0 2 [.ref 61, .int 1, .null] [] w Q) :
    px_Call E (d + 2) 0 0 mX10_unit [.ref 61] w Q :=
  px_enter (k := 2) (by decide) (Nat.le_of_ble_eq_true rfl) rfl (px_forget (bX10_unit_0 hw k1) ⟨Or.inr rfl, Or.inl rfl, Or.inl rfl, trivial⟩)
theorem bX10_unit_2 {E : px_E} {d : Nat} {w : pw_W} {Q : Option Value → pw_W → Prop} {t : ct_T} (hw : w.1 = cs t) {x1 : Int32}  
    (k1 : x1 = 0 → px_W E mX10_unit (d + 2) 0 0 101 [.ref 61, .null, .null] [] w Q)
    (k2 : ¬ x1 = 0 → ¬ (pw_I w 61 2) = 0 → px_W E mX10_unit (d + 2) 0 0 101 [.ref 61, .null, .null] [] w Q)
    (k3 : ¬ x1 = 0 → (pw_I w 61 2) = 0 → ¬ (pX10_isWord w 7237492) → px_W E mX10_unit (d + 2) 0 0 53 [.ref 61, .int x1, .null] [] w Q)
    (k4 : ¬ x1 = 0 → (pw_I w 61 2) = 0 → (pX10_isWord w 7237492) → px_Call E (d + 1) 0 0 mX10_mayNot [.ref 61] w (fun v w' => px_W E mX10_unit (d + 2) 0 0 27 [.ref 61, .int x1, .null] (v.toList ++ []) w' Q)) :
    px_W E mX10_unit (d + 2) 0 0 2 [.ref 61, .int x1, .null] [] w Q := by
  refine px_iload_n dX10_unit_2 rfl rfl ?_
  refine px_if_eq (tgt := 101) dX10_unit_3 (by decide) (fun h1 => ?_) (fun h1 => ?_)
  ·
    exact px_forget (k1 h1) ⟨Or.inr rfl, Or.inl rfl, Or.inl rfl, trivial⟩
  ·
    refine px_aload_n dX10_unit_6 rfl rfl ?_
    refine px_getI dX10_unit_7 fr_10_197 rfl (px_sh1 hw sh_61) ?_
    refine px_if_ne (tgt := 101) dX10_unit_10 (by decide) (fun h2 => ?_) (fun h2 => ?_)
    ·
      exact px_forget (k2 h1 h2) ⟨Or.inr rfl, Or.inl rfl, Or.inl rfl, trivial⟩
    ·
      refine px_aload_n dX10_unit_13 rfl rfl ?_
      refine px_ldc2 dX10_unit_14 (px_in7 68 rfl rfl) ?_
      refine px_callV (As := [.long 7237492]) (st := []) (rc := 0) (rs := 0) (mc := 0) (ms := 0) dX10_unit_17 lk_10_244 (px_sh1 hw sh_61) rfl rfl (Nat.le_of_ble_eq_true rfl) (sX10_isWord (w := w) hw ?_)
      show px_W E mX10_unit (d + 2) 0 0 20 [.ref 61, .int x1, .null] [.int (jb (pX10_isWord w 7237492))] w Q
      refine px_jb_eq (tgt := 53) dX10_unit_20 (by decide) (fun h3 => ?_) (fun h3 => ?_)
      ·
        exact (k3 h1 h2 h3)
      ·
        refine px_aload_n dX10_unit_23 rfl rfl ?_
        exact px_callV (As := []) (st := []) (rc := 0) (rs := 0) (mc := 0) (ms := 0) dX10_unit_24 lk_10_297 (px_sh1 hw sh_61) rfl rfl (Nat.le_of_ble_eq_true rfl) (k4 h1 h2 h3)
theorem bX10_unit_27 {E : px_E} {d : Nat} {w : pw_W} {Q : Option Value → pw_W → Prop} {t : ct_T} (hw : w.1 = cs t) {x1 y0 : Int32}  
    (k1 : y0 = 0 → px_W E mX10_unit (d + 2) 0 0 53 [.ref 61, .int x1, .null] [] w Q)
    (k2 : ¬ y0 = 0 → (pw_I w 61 23) ≤ 6 → px_W E mX10_unit (d + 2) 0 0 44 [.ref 61, .int x1, .null] [] w Q)
    (k3 : ¬ y0 = 0 → ¬ (pw_I w 61 23) ≤ 6 → px_Call E (d + 1) 0 0 mX10_wrong [.ref 61, .int 2] w (fun v w' => px_W E mX10_unit (d + 2) 0 0 44 [.ref 61, .int x1, .null] (v.toList ++ []) w' Q)) :
    px_W E mX10_unit (d + 2) 0 0 27 [.ref 61, .int x1, .null] [.int y0] w Q := by
  refine px_if_eq (tgt := 53) dX10_unit_27 (by decide) (fun h1 => ?_) (fun h1 => ?_)
  ·
    exact (k1 h1)
  ·
    refine px_aload_n dX10_unit_30 rfl rfl ?_
    refine px_getI dX10_unit_31 fr_10_288 rfl (px_sh1 hw sh_61) ?_
    refine px_bipush dX10_unit_34 bp_6 ?_
    refine px_icmp_le (tgt := 44) dX10_unit_36 (by decide) (fun h2 => ?_) (fun h2 => ?_)
    ·
      exact (k2 h1 h2)
    ·
      refine px_aload_n dX10_unit_39 rfl rfl ?_
      refine px_iconst dX10_unit_40 ic_2 ?_
      exact px_callV (As := [.int 2]) (st := []) (rc := 0) (rs := 0) (mc := 0) (ms := 0) dX10_unit_41 lk_10_248 (px_sh1 hw sh_61) rfl rfl (Nat.le_of_ble_eq_true rfl) (k3 h1 h2)
theorem bX10_unit_44 {E : px_E} {d : Nat} {w : pw_W} {Q : Option Value → pw_W → Prop} {t : ct_T} (hw : w.1 = cs t) {x1 : Int32}  
    (k1 : px_Call E (d + 1) 0 0 mX10_openUp [.ref 61, .int 21] w (fun v w' => px_W E mX10_unit (d + 2) 0 0 50 [.ref 61, .int x1, .null] (v.toList ++ []) w' Q)) :
    px_W E mX10_unit (d + 2) 0 0 44 [.ref 61, .int x1, .null] [] w Q := by
  refine px_aload_n dX10_unit_44 rfl rfl ?_
  refine px_bipush dX10_unit_45 bp_21 ?_
  exact px_callV (As := [.int 21]) (st := []) (rc := 0) (rs := 0) (mc := 0) (ms := 0) dX10_unit_47 lk_10_300 (px_sh1 hw sh_61) rfl rfl (Nat.le_of_ble_eq_true rfl) k1
theorem bX10_unit_50 {E : px_E} {d : Nat} {w : pw_W} {Q : Option Value → pw_W → Prop} {t : ct_T} (hw : w.1 = cs t) {x1 : Int32}  
    (k1 : px_W E mX10_unit (d + 2) 0 0 2 [.ref 61, .int x1, .null] [] w Q) :
    px_W E mX10_unit (d + 2) 0 0 50 [.ref 61, .int x1, .null] [] w Q := by
  refine px_goto (tgt := 2) dX10_unit_50 (by decide) ?_
  exact k1
theorem bX10_unit_53 {E : px_E} {d : Nat} {w : pw_W} {Q : Option Value → pw_W → Prop} {t : ct_T} (hw : w.1 = cs t) {x1 : Int32}  
    (k1 : ¬ (pw_I w 61 6) = 40 → px_W E mX10_unit (d + 2) 0 0 2 [.ref 61, .int 0, .null] [] w Q)
    (k2 : (pw_I w 61 6) = 40 → (pX10_isFull w) → px_W E mX10_unit (d + 2) 0 0 78 [.ref 61, .int x1, .null] [] w Q)
    (k3 : (pw_I w 61 6) = 40 → ¬ (pX10_isFull w) → (pw_I w 61 23) ≤ 6 → px_W E mX10_unit (d + 2) 0 0 83 [.ref 61, .int x1, .null] [] w Q)
    (k4 : (pw_I w 61 6) = 40 → ¬ (pX10_isFull w) → ¬ (pw_I w 61 23) ≤ 6 → px_W E mX10_unit (d + 2) 0 0 78 [.ref 61, .int x1, .null] [] w Q) :
    px_W E mX10_unit (d + 2) 0 0 53 [.ref 61, .int x1, .null] [] w Q := by
  refine px_aload_n dX10_unit_53 rfl rfl ?_
  refine px_getI dX10_unit_54 fr_10_184 rfl (px_sh1 hw sh_61) ?_
  refine px_bipush dX10_unit_57 bp_40 ?_
  refine px_icmp_ne (tgt := 96) dX10_unit_59 (by decide) (fun h1 => ?_) (fun h1 => ?_)
  ·
    refine px_iconst dX10_unit_96 ic_0 ?_
    refine px_istore_n (ls' := [.ref 61, .int 0, .null]) dX10_unit_97 rfl ⟨by decide, rfl⟩ rfl ?_
    refine px_goto (tgt := 2) dX10_unit_98 (by decide) ?_
    exact (k1 h1)
  ·
    refine px_aload_n dX10_unit_62 rfl rfl ?_
    refine px_callV (As := []) (st := []) (rc := 0) (rs := 0) (mc := 0) (ms := 0) dX10_unit_63 lk_10_303 (px_sh1 hw sh_61) rfl rfl (Nat.le_of_ble_eq_true rfl) (sX10_isFull (w := w) hw ?_)
    show px_W E mX10_unit (d + 2) 0 0 66 [.ref 61, .int x1, .null] [.int (jb (pX10_isFull w))] w Q
    refine px_jb_ne (tgt := 78) dX10_unit_66 (by decide) (fun h2 => ?_) (fun h2 => ?_)
    ·
      exact (k2 h1 h2)
    ·
      refine px_aload_n dX10_unit_69 rfl rfl ?_
      refine px_getI dX10_unit_70 fr_10_288 rfl (px_sh1 hw sh_61) ?_
      refine px_bipush dX10_unit_73 bp_6 ?_
      refine px_icmp_le (tgt := 83) dX10_unit_75 (by decide) (fun h3 => ?_) (fun h3 => ?_)
      ·
        exact (k3 h1 h2 h3)
      ·
        exact (k4 h1 h2 h3)
theorem bX10_unit_78 {E : px_E} {d : Nat} {w : pw_W} {Q : Option Value → pw_W → Prop} {t : ct_T} (hw : w.1 = cs t) {x1 : Int32}  
    (k1 : px_Call E (d + 1) 0 0 mX10_wrong [.ref 61, .int 2] w (fun v w' => px_W E mX10_unit (d + 2) 0 0 83 [.ref 61, .int x1, .null] (v.toList ++ []) w' Q)) :
    px_W E mX10_unit (d + 2) 0 0 78 [.ref 61, .int x1, .null] [] w Q := by
  refine px_aload_n dX10_unit_78 rfl rfl ?_
  refine px_iconst dX10_unit_79 ic_2 ?_
  exact px_callV (As := [.int 2]) (st := []) (rc := 0) (rs := 0) (mc := 0) (ms := 0) dX10_unit_80 lk_10_248 (px_sh1 hw sh_61) rfl rfl (Nat.le_of_ble_eq_true rfl) k1
theorem bX10_unit_83 {E : px_E} {d : Nat} {w : pw_W} {Q : Option Value → pw_W → Prop} {t : ct_T} (hw : w.1 = cs t) {x1 : Int32}  
    (k1 : px_Call E (d + 1) 0 0 mX10_countUnit [.ref 61] w (fun v w' => px_W E mX10_unit (d + 2) 0 0 87 [.ref 61, .int x1, .null] (v.toList ++ []) w' Q)) :
    px_W E mX10_unit (d + 2) 0 0 83 [.ref 61, .int x1, .null] [] w Q := by
  refine px_aload_n dX10_unit_83 rfl rfl ?_
  exact px_callV (As := []) (st := []) (rc := 0) (rs := 0) (mc := 0) (ms := 0) dX10_unit_84 lk_10_306 (px_sh1 hw sh_61) rfl rfl (Nat.le_of_ble_eq_true rfl) k1
theorem bX10_unit_87 {E : px_E} {d : Nat} {w : pw_W} {Q : Option Value → pw_W → Prop} {t : ct_T} (hw : w.1 = cs t) {x1 : Int32}  
    (k1 : px_Call E (d + 1) 0 0 mX10_openUp [.ref 61, .int 20] w (fun v w' => px_W E mX10_unit (d + 2) 0 0 93 [.ref 61, .int x1, .null] (v.toList ++ []) w' Q)) :
    px_W E mX10_unit (d + 2) 0 0 87 [.ref 61, .int x1, .null] [] w Q := by
  refine px_aload_n dX10_unit_87 rfl rfl ?_
  refine px_bipush dX10_unit_88 bp_20 ?_
  exact px_callV (As := [.int 20]) (st := []) (rc := 0) (rs := 0) (mc := 0) (ms := 0) dX10_unit_90 lk_10_300 (px_sh1 hw sh_61) rfl rfl (Nat.le_of_ble_eq_true rfl) k1
theorem bX10_unit_93 {E : px_E} {d : Nat} {w : pw_W} {Q : Option Value → pw_W → Prop} {t : ct_T} (hw : w.1 = cs t) {x1 : Int32}  
    (k1 : px_W E mX10_unit (d + 2) 0 0 2 [.ref 61, .int x1, .null] [] w Q) :
    px_W E mX10_unit (d + 2) 0 0 93 [.ref 61, .int x1, .null] [] w Q := by
  refine px_goto (tgt := 2) dX10_unit_93 (by decide) ?_
  exact k1
theorem bX10_unit_101 {E : px_E} {d : Nat} {w : pw_W} {Q : Option Value → pw_W → Prop} {t : ct_T} (hw : w.1 = cs t)  
    (k1 : (pw_I w 61 2) ≤ 0 → (pw_I w 61 6) = 2 → px_W E mX10_unit (d + 2) 0 0 126 [.ref 61, .null, .int (hX10_asked w)] [] w Q)
    (k2 : (pw_I w 61 2) ≤ 0 → ¬ (pw_I w 61 6) = 2 → (hX10_asked w) < 0 → px_W E mX10_unit (d + 2) 0 0 133 [.ref 61, .null, .int (hX10_asked w)] [] w Q)
    (k3 : (pw_I w 61 2) ≤ 0 → ¬ (pw_I w 61 6) = 2 → ¬ (hX10_asked w) < 0 → px_W E mX10_unit (d + 2) 0 0 126 [.ref 61, .null, .int (hX10_asked w)] [] w Q)
    (k4 : ¬ (pw_I w 61 2) ≤ 0 → Q none w) :
    px_W E mX10_unit (d + 2) 0 0 101 [.ref 61, .null, .null] [] w Q := by
  refine px_aload_n dX10_unit_101 rfl rfl ?_
  refine px_getI dX10_unit_102 fr_10_197 rfl (px_sh1 hw sh_61) ?_
  refine px_if_le (tgt := 109) dX10_unit_105 (by decide) (fun h1 => ?_) (fun h1 => ?_)
  ·
    refine px_aload_n dX10_unit_109 rfl rfl ?_
    refine px_callV (As := []) (st := []) (rc := 0) (rs := 0) (mc := 0) (ms := 0) dX10_unit_110 lk_10_309 (px_sh1 hw sh_61) rfl rfl (Nat.le_of_ble_eq_true rfl) (sX10_asked (w := w) hw ?_)
    show px_W E mX10_unit (d + 2) 0 0 113 [.ref 61, .null, .null] [.int (hX10_asked w)] w Q
    refine px_istore_n (ls' := [.ref 61, .null, .int (hX10_asked w)]) dX10_unit_113 rfl ⟨by decide, rfl⟩ rfl ?_
    refine px_aload_n dX10_unit_114 rfl rfl ?_
    refine px_getI dX10_unit_115 fr_10_184 rfl (px_sh1 hw sh_61) ?_
    refine px_iconst dX10_unit_118 ic_2 ?_
    refine px_icmp_eq (tgt := 126) dX10_unit_119 (by decide) (fun h2 => ?_) (fun h2 => ?_)
    ·
      exact (k1 h1 h2)
    ·
      refine px_iload_n dX10_unit_122 rfl rfl ?_
      refine px_if_lt (tgt := 133) dX10_unit_123 (by decide) (fun h3 => ?_) (fun h3 => ?_)
      ·
        exact (k2 h1 h2 h3)
      ·
        exact (k3 h1 h2 h3)
  ·
    exact px_return dX10_unit_108 rfl (k4 h1)
theorem bX10_unit_126 {E : px_E} {d : Nat} {w : pw_W} {Q : Option Value → pw_W → Prop} {t : ct_T} (hw : w.1 = cs t) {x2 : Int32}  
    (k1 : ¬ (pX10_isFull w) → px_W E mX10_unit (d + 2) 0 0 138 [.ref 61, .null, .int x2] [] w Q)
    (k2 : (pX10_isFull w) → px_W E mX10_unit (d + 2) 0 0 133 [.ref 61, .null, .int x2] [] w Q) :
    px_W E mX10_unit (d + 2) 0 0 126 [.ref 61, .null, .int x2] [] w Q := by
  refine px_aload_n dX10_unit_126 rfl rfl ?_
  refine px_callV (As := []) (st := []) (rc := 0) (rs := 0) (mc := 0) (ms := 0) dX10_unit_127 lk_10_303 (px_sh1 hw sh_61) rfl rfl (Nat.le_of_ble_eq_true rfl) (sX10_isFull (w := w) hw ?_)
  show px_W E mX10_unit (d + 2) 0 0 130 [.ref 61, .null, .int x2] [.int (jb (pX10_isFull w))] w Q
  refine px_jb_eq (tgt := 138) dX10_unit_130 (by decide) (fun h1 => ?_) (fun h1 => ?_)
  ·
    exact (k1 h1)
  ·
    exact (k2 h1)
theorem bX10_unit_133 {E : px_E} {d : Nat} {w : pw_W} {Q : Option Value → pw_W → Prop} {t : ct_T} (hw : w.1 = cs t) {x2 : Int32}  
    (k1 : px_Call E (d + 1) 0 0 mX10_wrong [.ref 61, .int 2] w (fun v w' => px_W E mX10_unit (d + 2) 0 0 138 [.ref 61, .null, .int x2] (v.toList ++ []) w' Q)) :
    px_W E mX10_unit (d + 2) 0 0 133 [.ref 61, .null, .int x2] [] w Q := by
  refine px_aload_n dX10_unit_133 rfl rfl ?_
  refine px_iconst dX10_unit_134 ic_2 ?_
  exact px_callV (As := [.int 2]) (st := []) (rc := 0) (rs := 0) (mc := 0) (ms := 0) dX10_unit_135 lk_10_248 (px_sh1 hw sh_61) rfl rfl (Nat.le_of_ble_eq_true rfl) k1
theorem bX10_unit_138 {E : px_E} {d : Nat} {w : pw_W} {Q : Option Value → pw_W → Prop} {t : ct_T} (hw : w.1 = cs t) {x2 : Int32}  
    (k1 : (pw_I w 61 2) ≤ 0 → px_Call E (d + 1) 0 0 mX10_countUnit [.ref 61] w (fun v w' => px_W E mX10_unit (d + 2) 0 0 150 [.ref 61, .null, .int x2] (v.toList ++ []) w' Q))
    (k2 : ¬ (pw_I w 61 2) ≤ 0 → Q none w) :
    px_W E mX10_unit (d + 2) 0 0 138 [.ref 61, .null, .int x2] [] w Q := by
  refine px_aload_n dX10_unit_138 rfl rfl ?_
  refine px_getI dX10_unit_139 fr_10_197 rfl (px_sh1 hw sh_61) ?_
  refine px_if_le (tgt := 146) dX10_unit_142 (by decide) (fun h1 => ?_) (fun h1 => ?_)
  ·
    refine px_aload_n dX10_unit_146 rfl rfl ?_
    exact px_callV (As := []) (st := []) (rc := 0) (rs := 0) (mc := 0) (ms := 0) dX10_unit_147 lk_10_306 (px_sh1 hw sh_61) rfl rfl (Nat.le_of_ble_eq_true rfl) (k1 h1)
  ·
    exact px_return dX10_unit_145 rfl (k2 h1)
theorem bX10_unit_150 {E : px_E} {d : Nat} {w : pw_W} {Q : Option Value → pw_W → Prop} {t : ct_T} (hw : w.1 = cs t) {x2 : Int32}  
    (k1 : 0 ≤ x2 → px_W E mX10_unit (d + 2) 0 0 160 [.ref 61, .null, .int x2] [.int 1, .ref 61] w Q)
    (k2 : ¬ 0 ≤ x2 → px_W E mX10_unit (d + 2) 0 0 160 [.ref 61, .null, .int x2] [.int 0, .ref 61] w Q) :
    px_W E mX10_unit (d + 2) 0 0 150 [.ref 61, .null, .int x2] [] w Q := by
  refine px_aload_n dX10_unit_150 rfl rfl ?_
  refine px_iload_n dX10_unit_151 rfl rfl ?_
  refine px_if_ge (tgt := 159) dX10_unit_152 (by decide) (fun h1 => ?_) (fun h1 => ?_)
  ·
    refine px_iconst dX10_unit_159 ic_1 ?_
    exact (k1 h1)
  ·
    refine px_iconst dX10_unit_155 ic_0 ?_
    refine px_goto (tgt := 160) dX10_unit_156 (by decide) ?_
    exact (k2 h1)
theorem bX10_unit_160 {E : px_E} {d : Nat} {w : pw_W} {Q : Option Value → pw_W → Prop} {t : ct_T} (hw : w.1 = cs t) {x2 y1 : Int32}  
    (k1 : 0 ≤ x2 → px_W E mX10_unit (d + 2) 0 0 172 [.ref 61, .null, .null] [.int x2, .int y1, .ref 61] w Q)
    (k2 : ¬ 0 ≤ x2 → px_W E mX10_unit (d + 2) 0 0 172 [.ref 61, .null, .null] [.int (pw_I w 61 8), .int y1, .ref 61] w Q) :
    px_W E mX10_unit (d + 2) 0 0 160 [.ref 61, .null, .int x2] [.int y1, .ref 61] w Q := by
  refine px_iload_n dX10_unit_160 rfl rfl ?_
  refine px_if_ge (tgt := 171) dX10_unit_161 (by decide) (fun h1 => ?_) (fun h1 => ?_)
  ·
    refine px_iload_n dX10_unit_171 rfl rfl ?_
    exact px_forget (k1 h1) ⟨Or.inr rfl, Or.inl rfl, Or.inl rfl, trivial⟩
  ·
    refine px_aload_n dX10_unit_164 rfl rfl ?_
    refine px_getI dX10_unit_165 fr_10_181 rfl (px_sh1 hw sh_61) ?_
    refine px_goto (tgt := 172) dX10_unit_168 (by decide) ?_
    exact px_forget (k2 h1) ⟨Or.inr rfl, Or.inl rfl, Or.inl rfl, trivial⟩
theorem bX10_unit_172 {E : px_E} {d : Nat} {w : pw_W} {Q : Option Value → pw_W → Prop} {t : ct_T} (hw : w.1 = cs t) {y1 y2 : Int32}  
    (k1 : px_Call E (d + 1) 0 0 mX10_add [.ref 61, .int y1, .int y2] w (fun v w' => px_W E mX10_unit (d + 2) 0 0 175 [.ref 61, .null, .null] (v.toList ++ []) w' Q)) :
    px_W E mX10_unit (d + 2) 0 0 172 [.ref 61, .null, .null] [.int y2, .int y1, .ref 61] w Q := by
  exact px_callV (As := [.int y1, .int y2]) (st := []) (rc := 0) (rs := 0) (mc := 0) (ms := 0) dX10_unit_172 lk_10_284 (px_sh1 hw sh_61) rfl rfl (Nat.le_of_ble_eq_true rfl) k1
theorem bX10_unit_175 {E : px_E} {d : Nat} {w : pw_W} {Q : Option Value → pw_W → Prop} {t : ct_T} (hw : w.1 = cs t)  
    (k1 : px_Call E (d + 1) 0 0 mX10_token [.ref 61] w (fun v w' => px_W E mX10_unit (d + 2) 0 0 179 [.null, .null, .null] (v.toList ++ []) w' Q)) :
    px_W E mX10_unit (d + 2) 0 0 175 [.ref 61, .null, .null] [] w Q := by
  refine px_aload_n dX10_unit_175 rfl rfl ?_
  refine px_forget (ls' := [.null, .null, .null]) ?_ ⟨Or.inl rfl, Or.inl rfl, Or.inl rfl, trivial⟩
  exact px_callV (As := []) (st := []) (rc := 0) (rs := 0) (mc := 0) (ms := 0) dX10_unit_176 lk_10_251 (px_sh1 hw sh_61) rfl rfl (Nat.le_of_ble_eq_true rfl) k1
theorem bX10_unit_179 {E : px_E} {d : Nat} {w : pw_W} {Q : Option Value → pw_W → Prop} {t : ct_T} (hw : w.1 = cs t)  
    (k1 : Q none w) :
    px_W E mX10_unit (d + 2) 0 0 179 [.null, .null, .null] [] w Q := by
  exact px_return dX10_unit_179 rfl k1
theorem dX10_hasBracket_0 : decode mX10_hasBracket.2.1 0 = .ok (.iconst 0, 1) := by decide +kernel
theorem dX10_hasBracket_1 : decode mX10_hasBracket.2.1 1 = .ok (.istore_n 1, 1) := by decide +kernel
theorem dX10_hasBracket_2 : decode mX10_hasBracket.2.1 2 = .ok (.iconst 0, 1) := by decide +kernel
theorem dX10_hasBracket_3 : decode mX10_hasBracket.2.1 3 = .ok (.istore_n 2, 1) := by decide +kernel
theorem dX10_hasBracket_4 : decode mX10_hasBracket.2.1 4 = .ok (.iload_n 2, 1) := by decide +kernel
theorem dX10_hasBracket_5 : decode mX10_hasBracket.2.1 5 = .ok (.aload_n 0, 1) := by decide +kernel
theorem dX10_hasBracket_6 : decode mX10_hasBracket.2.1 6 = .ok (.getfield 278, 3) := by decide +kernel
theorem dX10_hasBracket_9 : decode mX10_hasBracket.2.1 9 = .ok (.if_icmp .ge 30, 3) := by decide +kernel
theorem dX10_hasBracket_12 : decode mX10_hasBracket.2.1 12 = .ok (.iload_n 1, 1) := by decide +kernel
theorem dX10_hasBracket_13 : decode mX10_hasBracket.2.1 13 = .ok (.ifCond .ne 14, 3) := by decide +kernel
theorem dX10_hasBracket_16 : decode mX10_hasBracket.2.1 16 = .ok (.aload_n 0, 1) := by decide +kernel
theorem dX10_hasBracket_17 : decode mX10_hasBracket.2.1 17 = .ok (.getfield 33, 3) := by decide +kernel
theorem dX10_hasBracket_20 : decode mX10_hasBracket.2.1 20 = .ok (.iload_n 2, 1) := by decide +kernel
theorem dX10_hasBracket_21 : decode mX10_hasBracket.2.1 21 = .ok (.iaload, 1) := by decide +kernel
theorem dX10_hasBracket_22 : decode mX10_hasBracket.2.1 22 = .ok (.bipush 20, 2) := by decide +kernel
theorem dX10_hasBracket_24 : decode mX10_hasBracket.2.1 24 = .ok (.if_icmp .ne 7, 3) := by decide +kernel
theorem dX10_hasBracket_27 : decode mX10_hasBracket.2.1 27 = .ok (.iconst 1, 1) := by decide +kernel
theorem dX10_hasBracket_28 : decode mX10_hasBracket.2.1 28 = .ok (.goto 4, 3) := by decide +kernel
theorem dX10_hasBracket_31 : decode mX10_hasBracket.2.1 31 = .ok (.iconst 0, 1) := by decide +kernel
theorem dX10_hasBracket_32 : decode mX10_hasBracket.2.1 32 = .ok (.istore_n 1, 1) := by decide +kernel
theorem dX10_hasBracket_33 : decode mX10_hasBracket.2.1 33 = .ok (.iinc 2 1, 3) := by decide +kernel
theorem dX10_hasBracket_36 : decode mX10_hasBracket.2.1 36 = .ok (.goto (-32), 3) := by decide +kernel
theorem dX10_hasBracket_39 : decode mX10_hasBracket.2.1 39 = .ok (.iload_n 1, 1) := by decide +kernel
theorem dX10_hasBracket_40 : decode mX10_hasBracket.2.1 40 = .ok (.ireturn, 1) := by decide +kernel
theorem bX10_hasBracket_0 {E : px_E} {d : Nat} {w : pw_W} {Q : Option Value → pw_W → Prop} {t : ct_T} (hw : w.1 = cs t)  
    (k1 : px_W E mX10_hasBracket (d + 1) 0 0 4 [.ref 61, .int 0, .int 0] [] w Q) :
    px_W E mX10_hasBracket (d + 1) 0 0 0 [.ref 61, .null, .null] [] w Q := by
  refine px_iconst dX10_hasBracket_0 ic_0 ?_
  refine px_istore_n (ls' := [.ref 61, .int 0, .null]) dX10_hasBracket_1 rfl ⟨by decide, rfl⟩ rfl ?_
  refine px_iconst dX10_hasBracket_2 ic_0 ?_
  refine px_istore_n (ls' := [.ref 61, .int 0, .int 0]) dX10_hasBracket_3 rfl ⟨by decide, rfl⟩ rfl ?_
  exact k1
theorem eX10_hasBracket {E : px_E} {d : Nat} {w : pw_W} {Q : Option Value → pw_W → Prop} {t : ct_T} (hw : w.1 = cs t)  
    (k1 : px_W E mX10_hasBracket (d + 1) 0 0 4 [.ref 61, .int 0, .int 0] [] w Q) :
    px_Call E (d + 1) 0 0 mX10_hasBracket [.ref 61] w Q :=
  px_enter (k := 2) (by decide) (Nat.le_of_ble_eq_true rfl) rfl (px_forget (bX10_hasBracket_0 hw k1) ⟨Or.inr rfl, Or.inl rfl, Or.inl rfl, trivial⟩)
theorem bX10_hasBracket_4 {E : px_E} {d : Nat} {w : pw_W} {Q : Option Value → pw_W → Prop} {t : ct_T} (hw : w.1 = cs t) {x1 x2 : Int32}  (hb1 : (pw_I w 61 19) ≤ x2 → x1 = 0 ∨ x1 = 1)
    (k1 : (pw_I w 61 19) ≤ x2 → Q (some (.int x1)) w)
    (k2 : ¬ (pw_I w 61 19) ≤ x2 → ¬ x1 = 0 → px_W E mX10_hasBracket (d + 1) 0 0 27 [.ref 61, .null, .int x2] [] w Q)
    (k3 : ¬ (pw_I w 61 19) ≤ x2 → x1 = 0 → px_W E mX10_hasBracket (d + 1) 0 0 16 [.ref 61, .null, .int x2] [] w Q) :
    px_W E mX10_hasBracket (d + 1) 0 0 4 [.ref 61, .int x1, .int x2] [] w Q := by
  refine px_iload_n dX10_hasBracket_4 rfl rfl ?_
  refine px_aload_n dX10_hasBracket_5 rfl rfl ?_
  refine px_getI dX10_hasBracket_6 fr_10_278 rfl (px_sh1 hw sh_61) ?_
  refine px_icmp_ge (tgt := 39) dX10_hasBracket_9 (by decide) (fun h1 => ?_) (fun h1 => ?_)
  ·
    refine px_iload_n dX10_hasBracket_39 rfl rfl ?_
    exact px_ireturn dX10_hasBracket_40 rfl (px_nb (hb1 h1)) (k1 h1)
  ·
    refine px_iload_n dX10_hasBracket_12 rfl rfl ?_
    refine px_if_ne (tgt := 27) dX10_hasBracket_13 (by decide) (fun h2 => ?_) (fun h2 => ?_)
    ·
      exact px_forget (k2 h1 h2) ⟨Or.inr rfl, Or.inl rfl, Or.inr rfl, trivial⟩
    ·
      exact px_forget (k3 h1 h2) ⟨Or.inr rfl, Or.inl rfl, Or.inr rfl, trivial⟩
theorem bX10_hasBracket_16 {E : px_E} {d : Nat} {w : pw_W} {Q : Option Value → pw_W → Prop} {t : ct_T} (hw : w.1 = cs t) {x2 : Int32}  (j1 : Nat) (hj1 : x2 = nI j1) (hl1 : j1 < 160)
    (k1 : ¬ (pw_I w 68 j1) = 20 → px_W E mX10_hasBracket (d + 1) 0 0 32 [.ref 61, .null, .int x2] [.int 0] w Q)
    (k2 : (pw_I w 68 j1) = 20 → px_W E mX10_hasBracket (d + 1) 0 0 27 [.ref 61, .null, .int x2] [] w Q) :
    px_W E mX10_hasBracket (d + 1) 0 0 16 [.ref 61, .null, .int x2] [] w Q := by
  refine px_aload_n dX10_hasBracket_16 rfl rfl ?_
  refine px_getR (v := 68) dX10_hasBracket_17 fr_10_33 rfl (px_sh1 hw sh_61) (px_rf hw rf_61_15) (by decide) ?_
  refine px_iload_n dX10_hasBracket_20 rfl rfl ?_
  refine px_iald dX10_hasBracket_21 (px_sh2 hw sh_68) (by decide) j1 hj1 hl1 ?_
  refine px_bipush dX10_hasBracket_22 bp_20 ?_
  refine px_icmp_ne (tgt := 31) dX10_hasBracket_24 (by decide) (fun h1 => ?_) (fun h1 => ?_)
  ·
    refine px_iconst dX10_hasBracket_31 ic_0 ?_
    exact (k1 h1)
  ·
    exact (k2 h1)
theorem bX10_hasBracket_27 {E : px_E} {d : Nat} {w : pw_W} {Q : Option Value → pw_W → Prop} {t : ct_T} (hw : w.1 = cs t) {x2 : Int32}  
    (k1 : px_W E mX10_hasBracket (d + 1) 0 0 32 [.ref 61, .null, .int x2] [.int 1] w Q) :
    px_W E mX10_hasBracket (d + 1) 0 0 27 [.ref 61, .null, .int x2] [] w Q := by
  refine px_iconst dX10_hasBracket_27 ic_1 ?_
  refine px_goto (tgt := 32) dX10_hasBracket_28 (by decide) ?_
  exact k1
theorem bX10_hasBracket_32 {E : px_E} {d : Nat} {w : pw_W} {Q : Option Value → pw_W → Prop} {t : ct_T} (hw : w.1 = cs t) {x2 y0 : Int32}  
    (k1 : px_W E mX10_hasBracket (d + 1) 0 0 4 [.ref 61, .int y0, .int (x2 + 1)] [] w Q) :
    px_W E mX10_hasBracket (d + 1) 0 0 32 [.ref 61, .null, .int x2] [.int y0] w Q := by
  refine px_istore_n (ls' := [.ref 61, .int y0, .int x2]) dX10_hasBracket_32 rfl ⟨by decide, rfl⟩ rfl ?_
  refine px_iinc (ls' := [.ref 61, .int y0, .int (x2 + 1)]) dX10_hasBracket_33 ⟨by decide, rfl⟩ rfl rfl rfl ?_
  refine px_goto (tgt := 4) dX10_hasBracket_36 (by decide) ?_
  exact k1
theorem dX10_formula_0 : decode mX10_formula.2.1 0 = .ok (.aload_n 0, 1) := by decide +kernel
theorem dX10_formula_1 : decode mX10_formula.2.1 1 = .ok (.invokevirtual 251, 3) := by decide +kernel
theorem dX10_formula_4 : decode mX10_formula.2.1 4 = .ok (.aload_n 0, 1) := by decide +kernel
theorem dX10_formula_5 : decode mX10_formula.2.1 5 = .ok (.iconst 1, 1) := by decide +kernel
theorem dX10_formula_6 : decode mX10_formula.2.1 6 = .ok (.putfield 313, 3) := by decide +kernel
theorem dX10_formula_9 : decode mX10_formula.2.1 9 = .ok (.aload_n 0, 1) := by decide +kernel
theorem dX10_formula_10 : decode mX10_formula.2.1 10 = .ok (.iconst 0, 1) := by decide +kernel
theorem dX10_formula_11 : decode mX10_formula.2.1 11 = .ok (.putfield 275, 3) := by decide +kernel
theorem dX10_formula_14 : decode mX10_formula.2.1 14 = .ok (.aload_n 0, 1) := by decide +kernel
theorem dX10_formula_15 : decode mX10_formula.2.1 15 = .ok (.iconst 0, 1) := by decide +kernel
theorem dX10_formula_16 : decode mX10_formula.2.1 16 = .ok (.putfield 278, 3) := by decide +kernel
theorem dX10_formula_19 : decode mX10_formula.2.1 19 = .ok (.aload_n 0, 1) := by decide +kernel
theorem dX10_formula_20 : decode mX10_formula.2.1 20 = .ok (.iconst 0, 1) := by decide +kernel
theorem dX10_formula_21 : decode mX10_formula.2.1 21 = .ok (.putfield 288, 3) := by decide +kernel
theorem dX10_formula_24 : decode mX10_formula.2.1 24 = .ok (.aload_n 0, 1) := by decide +kernel
theorem dX10_formula_25 : decode mX10_formula.2.1 25 = .ok (.iconst 0, 1) := by decide +kernel
theorem dX10_formula_26 : decode mX10_formula.2.1 26 = .ok (.putfield 294, 3) := by decide +kernel
theorem dX10_formula_29 : decode mX10_formula.2.1 29 = .ok (.aload_n 0, 1) := by decide +kernel
theorem dX10_formula_30 : decode mX10_formula.2.1 30 = .ok (.invokevirtual 317, 3) := by decide +kernel
theorem dX10_formula_33 : decode mX10_formula.2.1 33 = .ok (.iconst 1, 1) := by decide +kernel
theorem dX10_formula_34 : decode mX10_formula.2.1 34 = .ok (.istore_n 1, 1) := by decide +kernel
theorem dX10_formula_35 : decode mX10_formula.2.1 35 = .ok (.iload_n 1, 1) := by decide +kernel
theorem dX10_formula_36 : decode mX10_formula.2.1 36 = .ok (.ifCond .eq 126, 3) := by decide +kernel
theorem dX10_formula_39 : decode mX10_formula.2.1 39 = .ok (.aload_n 0, 1) := by decide +kernel
theorem dX10_formula_40 : decode mX10_formula.2.1 40 = .ok (.getfield 197, 3) := by decide +kernel
theorem dX10_formula_43 : decode mX10_formula.2.1 43 = .ok (.ifCond .ne 119, 3) := by decide +kernel
theorem dX10_formula_46 : decode mX10_formula.2.1 46 = .ok (.aload_n 0, 1) := by decide +kernel
theorem dX10_formula_47 : decode mX10_formula.2.1 47 = .ok (.invokevirtual 320, 3) := by decide +kernel
theorem dX10_formula_50 : decode mX10_formula.2.1 50 = .ok (.istore_n 2, 1) := by decide +kernel
theorem dX10_formula_51 : decode mX10_formula.2.1 51 = .ok (.aload_n 0, 1) := by decide +kernel
theorem dX10_formula_52 : decode mX10_formula.2.1 52 = .ok (.getfield 184, 3) := by decide +kernel
theorem dX10_formula_55 : decode mX10_formula.2.1 55 = .ok (.bipush 41, 2) := by decide +kernel
theorem dX10_formula_57 : decode mX10_formula.2.1 57 = .ok (.if_icmp .ne 42, 3) := by decide +kernel
theorem dX10_formula_60 : decode mX10_formula.2.1 60 = .ok (.aload_n 0, 1) := by decide +kernel
theorem dX10_formula_61 : decode mX10_formula.2.1 61 = .ok (.invokevirtual 323, 3) := by decide +kernel
theorem dX10_formula_64 : decode mX10_formula.2.1 64 = .ok (.ifCond .eq 35, 3) := by decide +kernel
theorem dX10_formula_67 : decode mX10_formula.2.1 67 = .ok (.aload_n 0, 1) := by decide +kernel
theorem dX10_formula_68 : decode mX10_formula.2.1 68 = .ok (.iconst 0, 1) := by decide +kernel
theorem dX10_formula_69 : decode mX10_formula.2.1 69 = .ok (.invokevirtual 326, 3) := by decide +kernel
theorem dX10_formula_72 : decode mX10_formula.2.1 72 = .ok (.aload_n 0, 1) := by decide +kernel
theorem dX10_formula_73 : decode mX10_formula.2.1 73 = .ok (.dup, 1) := by decide +kernel
theorem dX10_formula_74 : decode mX10_formula.2.1 74 = .ok (.getfield 278, 3) := by decide +kernel
theorem dX10_formula_77 : decode mX10_formula.2.1 77 = .ok (.iconst 1, 1) := by decide +kernel
theorem dX10_formula_78 : decode mX10_formula.2.1 78 = .ok (.isub, 1) := by decide +kernel
theorem dX10_formula_79 : decode mX10_formula.2.1 79 = .ok (.putfield 278, 3) := by decide +kernel
theorem dX10_formula_82 : decode mX10_formula.2.1 82 = .ok (.aload_n 0, 1) := by decide +kernel
theorem dX10_formula_83 : decode mX10_formula.2.1 83 = .ok (.dup, 1) := by decide +kernel
theorem dX10_formula_84 : decode mX10_formula.2.1 84 = .ok (.getfield 288, 3) := by decide +kernel
theorem dX10_formula_87 : decode mX10_formula.2.1 87 = .ok (.iconst 1, 1) := by decide +kernel
theorem dX10_formula_88 : decode mX10_formula.2.1 88 = .ok (.isub, 1) := by decide +kernel
theorem dX10_formula_89 : decode mX10_formula.2.1 89 = .ok (.putfield 288, 3) := by decide +kernel
theorem dX10_formula_92 : decode mX10_formula.2.1 92 = .ok (.aload_n 0, 1) := by decide +kernel
theorem dX10_formula_93 : decode mX10_formula.2.1 93 = .ok (.invokevirtual 251, 3) := by decide +kernel
theorem dX10_formula_96 : decode mX10_formula.2.1 96 = .ok (.goto 63, 3) := by decide +kernel
theorem dX10_formula_99 : decode mX10_formula.2.1 99 = .ok (.iload_n 2, 1) := by decide +kernel
theorem dX10_formula_100 : decode mX10_formula.2.1 100 = .ok (.ifCond .eq 57, 3) := by decide +kernel
theorem dX10_formula_103 : decode mX10_formula.2.1 103 = .ok (.iload_n 2, 1) := by decide +kernel
theorem dX10_formula_104 : decode mX10_formula.2.1 104 = .ok (.invokestatic 281, 3) := by decide +kernel
theorem dX10_formula_107 : decode mX10_formula.2.1 107 = .ok (.iconst 4, 1) := by decide +kernel
theorem dX10_formula_108 : decode mX10_formula.2.1 108 = .ok (.if_icmp .ne 10, 3) := by decide +kernel
theorem dX10_formula_111 : decode mX10_formula.2.1 111 = .ok (.aload_n 0, 1) := by decide +kernel
theorem dX10_formula_112 : decode mX10_formula.2.1 112 = .ok (.invokevirtual 329, 3) := by decide +kernel
theorem dX10_formula_115 : decode mX10_formula.2.1 115 = .ok (.ifCond .ne 42, 3) := by decide +kernel
theorem dX10_formula_118 : decode mX10_formula.2.1 118 = .ok (.aload_n 0, 1) := by decide +kernel
theorem dX10_formula_119 : decode mX10_formula.2.1 119 = .ok (.iload_n 2, 1) := by decide +kernel
theorem dX10_formula_120 : decode mX10_formula.2.1 120 = .ok (.invokestatic 281, 3) := by decide +kernel
theorem dX10_formula_123 : decode mX10_formula.2.1 123 = .ok (.invokevirtual 326, 3) := by decide +kernel
theorem dX10_formula_126 : decode mX10_formula.2.1 126 = .ok (.aload_n 0, 1) := by decide +kernel
theorem dX10_formula_127 : decode mX10_formula.2.1 127 = .ok (.getfield 33, 3) := by decide +kernel
theorem dX10_formula_130 : decode mX10_formula.2.1 130 = .ok (.aload_n 0, 1) := by decide +kernel
theorem dX10_formula_131 : decode mX10_formula.2.1 131 = .ok (.getfield 278, 3) := by decide +kernel
theorem dX10_formula_134 : decode mX10_formula.2.1 134 = .ok (.iload_n 2, 1) := by decide +kernel
theorem dX10_formula_135 : decode mX10_formula.2.1 135 = .ok (.iastore, 1) := by decide +kernel
theorem dX10_formula_136 : decode mX10_formula.2.1 136 = .ok (.aload_n 0, 1) := by decide +kernel
theorem dX10_formula_137 : decode mX10_formula.2.1 137 = .ok (.dup, 1) := by decide +kernel
theorem dX10_formula_138 : decode mX10_formula.2.1 138 = .ok (.getfield 278, 3) := by decide +kernel
theorem dX10_formula_141 : decode mX10_formula.2.1 141 = .ok (.iconst 1, 1) := by decide +kernel
theorem dX10_formula_142 : decode mX10_formula.2.1 142 = .ok (.iadd, 1) := by decide +kernel
theorem dX10_formula_143 : decode mX10_formula.2.1 143 = .ok (.putfield 278, 3) := by decide +kernel
theorem dX10_formula_146 : decode mX10_formula.2.1 146 = .ok (.aload_n 0, 1) := by decide +kernel
theorem dX10_formula_147 : decode mX10_formula.2.1 147 = .ok (.invokevirtual 251, 3) := by decide +kernel
theorem dX10_formula_150 : decode mX10_formula.2.1 150 = .ok (.aload_n 0, 1) := by decide +kernel
theorem dX10_formula_151 : decode mX10_formula.2.1 151 = .ok (.invokevirtual 317, 3) := by decide +kernel
theorem dX10_formula_154 : decode mX10_formula.2.1 154 = .ok (.goto 5, 3) := by decide +kernel
theorem dX10_formula_157 : decode mX10_formula.2.1 157 = .ok (.iconst 0, 1) := by decide +kernel
theorem dX10_formula_158 : decode mX10_formula.2.1 158 = .ok (.istore_n 1, 1) := by decide +kernel
theorem dX10_formula_159 : decode mX10_formula.2.1 159 = .ok (.goto (-124), 3) := by decide +kernel
theorem dX10_formula_162 : decode mX10_formula.2.1 162 = .ok (.aload_n 0, 1) := by decide +kernel
theorem dX10_formula_163 : decode mX10_formula.2.1 163 = .ok (.getfield 197, 3) := by decide +kernel
theorem dX10_formula_166 : decode mX10_formula.2.1 166 = .ok (.ifCond .ne 15, 3) := by decide +kernel
theorem dX10_formula_169 : decode mX10_formula.2.1 169 = .ok (.aload_n 0, 1) := by decide +kernel
theorem dX10_formula_170 : decode mX10_formula.2.1 170 = .ok (.invokevirtual 323, 3) := by decide +kernel
theorem dX10_formula_173 : decode mX10_formula.2.1 173 = .ok (.ifCond .eq 8, 3) := by decide +kernel
theorem dX10_formula_176 : decode mX10_formula.2.1 176 = .ok (.aload_n 0, 1) := by decide +kernel
theorem dX10_formula_177 : decode mX10_formula.2.1 177 = .ok (.iconst 2, 1) := by decide +kernel
theorem dX10_formula_178 : decode mX10_formula.2.1 178 = .ok (.invokevirtual 248, 3) := by decide +kernel
theorem dX10_formula_181 : decode mX10_formula.2.1 181 = .ok (.aload_n 0, 1) := by decide +kernel
theorem dX10_formula_182 : decode mX10_formula.2.1 182 = .ok (.getfield 197, 3) := by decide +kernel
theorem dX10_formula_185 : decode mX10_formula.2.1 185 = .ok (.ifCond .ne 8, 3) := by decide +kernel
theorem dX10_formula_188 : decode mX10_formula.2.1 188 = .ok (.aload_n 0, 1) := by decide +kernel
theorem dX10_formula_189 : decode mX10_formula.2.1 189 = .ok (.iconst 0, 1) := by decide +kernel
theorem dX10_formula_190 : decode mX10_formula.2.1 190 = .ok (.invokevirtual 326, 3) := by decide +kernel
theorem dX10_formula_193 : decode mX10_formula.2.1 193 = .ok (.return_, 1) := by decide +kernel
theorem bX10_formula_0 {E : px_E} {d : Nat} {w : pw_W} {Q : Option Value → pw_W → Prop} {t : ct_T} (hw : w.1 = cs t)  
    (k1 : px_Call E (d + 2) 0 0 mX10_token [.ref 61] w (fun v w' => px_W E mX10_formula (d + 3) 0 0 4 [.ref 61, .null, .null] (v.toList ++ []) w' Q)) :
    px_W E mX10_formula (d + 3) 0 0 0 [.ref 61, .null, .null] [] w Q := by
  refine px_aload_n dX10_formula_0 rfl rfl ?_
  exact px_callV (As := []) (st := []) (rc := 0) (rs := 0) (mc := 0) (ms := 0) dX10_formula_1 lk_10_251 (px_sh1 hw sh_61) rfl rfl (Nat.le_of_ble_eq_true rfl) k1
theorem eX10_formula {E : px_E} {d : Nat} {w : pw_W} {Q : Option Value → pw_W → Prop} {t : ct_T} (hw : w.1 = cs t)  
    (k1 : px_Call E (d + 2) 0 0 mX10_token [.ref 61] w (fun v w' => px_W E mX10_formula (d + 3) 0 0 4 [.ref 61, .null, .null] (v.toList ++ []) w' Q)) :
    px_Call E (d + 3) 0 0 mX10_formula [.ref 61] w Q :=
  px_enter (k := 2) (by decide) (Nat.le_of_ble_eq_true rfl) rfl (px_forget (bX10_formula_0 hw k1) ⟨Or.inr rfl, Or.inl rfl, Or.inl rfl, trivial⟩)
theorem bX10_formula_4 {E : px_E} {d : Nat} {w : pw_W} {Q : Option Value → pw_W → Prop} {t : ct_T} (hw : w.1 = cs t)  
    (k1 : px_Call E (d + 2) 0 0 mX10_unit [.ref 61] (pw_sI (pw_sI (pw_sI (pw_sI (pw_sI w 61 24 1) 61 17 0) 61 19 0) 61 23 0) 61 22 0) (fun v w' => px_W E mX10_formula (d + 3) 0 0 33 [.ref 61, .null, .null] (v.toList ++ []) w' Q)) :
    px_W E mX10_formula (d + 3) 0 0 4 [.ref 61, .null, .null] [] w Q := by
  refine px_aload_n dX10_formula_4 rfl rfl ?_
  refine px_iconst dX10_formula_5 ic_1 ?_
  refine px_putI dX10_formula_6 fl_10_313 (Or.inl rfl) rfl (px_sh1 hw sh_61) (by decide) (by decide) (by omega) ?_
  refine px_aload_n dX10_formula_9 rfl rfl ?_
  refine px_iconst dX10_formula_10 ic_0 ?_
  refine px_putI dX10_formula_11 fl_10_275 (Or.inl rfl) rfl (px_sh1 (hI hw) sh_61) rfl rfl (by omega) ?_
  refine px_aload_n dX10_formula_14 rfl rfl ?_
  refine px_iconst dX10_formula_15 ic_0 ?_
  refine px_putI dX10_formula_16 fl_10_278 (Or.inl rfl) rfl (px_sh1 (hI (hI hw)) sh_61) rfl rfl (by omega) ?_
  refine px_aload_n dX10_formula_19 rfl rfl ?_
  refine px_iconst dX10_formula_20 ic_0 ?_
  refine px_putI dX10_formula_21 fl_10_288 (Or.inl rfl) rfl (px_sh1 (hI (hI (hI hw))) sh_61) rfl rfl (by omega) ?_
  refine px_aload_n dX10_formula_24 rfl rfl ?_
  refine px_iconst dX10_formula_25 ic_0 ?_
  refine px_putI dX10_formula_26 fl_10_294 (Or.inl rfl) rfl (px_sh1 (hI (hI (hI (hI hw)))) sh_61) rfl rfl (by omega) ?_
  refine px_aload_n dX10_formula_29 rfl rfl ?_
  exact px_callV (As := []) (st := []) (rc := 0) (rs := 0) (mc := 0) (ms := 0) dX10_formula_30 lk_10_317 (px_sh1 (hI (hI (hI (hI (hI hw))))) sh_61) rfl rfl (Nat.le_of_ble_eq_true rfl) k1
theorem bX10_formula_33 {E : px_E} {d : Nat} {w : pw_W} {Q : Option Value → pw_W → Prop} {t : ct_T} (hw : w.1 = cs t)  
    (k1 : px_W E mX10_formula (d + 3) 0 0 35 [.ref 61, .int 1, .null] [] w Q) :
    px_W E mX10_formula (d + 3) 0 0 33 [.ref 61, .null, .null] [] w Q := by
  refine px_iconst dX10_formula_33 ic_1 ?_
  refine px_istore_n (ls' := [.ref 61, .int 1, .null]) dX10_formula_34 rfl ⟨by decide, rfl⟩ rfl ?_
  exact k1
theorem bX10_formula_35 {E : px_E} {d : Nat} {w : pw_W} {Q : Option Value → pw_W → Prop} {t : ct_T} (hw : w.1 = cs t) {x1 : Int32}  
    (k1 : x1 = 0 → px_W E mX10_formula (d + 3) 0 0 162 [.ref 61, .null, .null] [] w Q)
    (k2 : ¬ x1 = 0 → ¬ (pw_I w 61 2) = 0 → px_W E mX10_formula (d + 3) 0 0 162 [.ref 61, .null, .null] [] w Q)
    (k3 : ¬ x1 = 0 → (pw_I w 61 2) = 0 → ¬ (pw_I w 61 6) = 41 → px_W E mX10_formula (d + 3) 0 0 99 [.ref 61, .int x1, .int (hX10_sign w)] [] w Q)
    (k4 : ¬ x1 = 0 → (pw_I w 61 2) = 0 → (pw_I w 61 6) = 41 → px_Call E (d + 2) 0 0 mX10_hasBracket [.ref 61] w (fun v w' => px_W E mX10_formula (d + 3) 0 0 64 [.ref 61, .int x1, .int (hX10_sign w)] (v.toList ++ []) w' Q)) :
    px_W E mX10_formula (d + 3) 0 0 35 [.ref 61, .int x1, .null] [] w Q := by
  refine px_iload_n dX10_formula_35 rfl rfl ?_
  refine px_if_eq (tgt := 162) dX10_formula_36 (by decide) (fun h1 => ?_) (fun h1 => ?_)
  ·
    exact px_forget (k1 h1) ⟨Or.inr rfl, Or.inl rfl, Or.inl rfl, trivial⟩
  ·
    refine px_aload_n dX10_formula_39 rfl rfl ?_
    refine px_getI dX10_formula_40 fr_10_197 rfl (px_sh1 hw sh_61) ?_
    refine px_if_ne (tgt := 162) dX10_formula_43 (by decide) (fun h2 => ?_) (fun h2 => ?_)
    ·
      exact px_forget (k2 h1 h2) ⟨Or.inr rfl, Or.inl rfl, Or.inl rfl, trivial⟩
    ·
      refine px_aload_n dX10_formula_46 rfl rfl ?_
      refine px_callV (As := []) (st := []) (rc := 0) (rs := 0) (mc := 0) (ms := 0) dX10_formula_47 lk_10_320 (px_sh1 hw sh_61) rfl rfl (Nat.le_of_ble_eq_true rfl) (sX10_sign (w := w) hw ?_)
      show px_W E mX10_formula (d + 3) 0 0 50 [.ref 61, .int x1, .null] [.int (hX10_sign w)] w Q
      refine px_istore_n (ls' := [.ref 61, .int x1, .int (hX10_sign w)]) dX10_formula_50 rfl ⟨by decide, rfl⟩ rfl ?_
      refine px_aload_n dX10_formula_51 rfl rfl ?_
      refine px_getI dX10_formula_52 fr_10_184 rfl (px_sh1 hw sh_61) ?_
      refine px_bipush dX10_formula_55 bp_41 ?_
      refine px_icmp_ne (tgt := 99) dX10_formula_57 (by decide) (fun h3 => ?_) (fun h3 => ?_)
      ·
        exact (k3 h1 h2 h3)
      ·
        refine px_aload_n dX10_formula_60 rfl rfl ?_
        exact px_callV (As := []) (st := []) (rc := 0) (rs := 0) (mc := 0) (ms := 0) dX10_formula_61 lk_10_323 (px_sh1 hw sh_61) rfl rfl (Nat.le_of_ble_eq_true rfl) (k4 h1 h2 h3)
theorem bX10_formula_64 {E : px_E} {d : Nat} {w : pw_W} {Q : Option Value → pw_W → Prop} {t : ct_T} (hw : w.1 = cs t) {x1 x2 y0 : Int32}  
    (k1 : y0 = 0 → px_W E mX10_formula (d + 3) 0 0 99 [.ref 61, .int x1, .int x2] [] w Q)
    (k2 : ¬ y0 = 0 → px_Call E (d + 2) 0 0 mX10_close [.ref 61, .int 0] w (fun v w' => px_W E mX10_formula (d + 3) 0 0 72 [.ref 61, .int x1, .null] (v.toList ++ []) w' Q)) :
    px_W E mX10_formula (d + 3) 0 0 64 [.ref 61, .int x1, .int x2] [.int y0] w Q := by
  refine px_if_eq (tgt := 99) dX10_formula_64 (by decide) (fun h1 => ?_) (fun h1 => ?_)
  ·
    exact (k1 h1)
  ·
    refine px_aload_n dX10_formula_67 rfl rfl ?_
    refine px_iconst dX10_formula_68 ic_0 ?_
    refine px_forget (ls' := [.ref 61, .int x1, .null]) ?_ ⟨Or.inr rfl, Or.inr rfl, Or.inl rfl, trivial⟩
    exact px_callV (As := [.int 0]) (st := []) (rc := 0) (rs := 0) (mc := 0) (ms := 0) dX10_formula_69 lk_10_326 (px_sh1 hw sh_61) rfl rfl (Nat.le_of_ble_eq_true rfl) (k2 h1)
theorem bX10_formula_72 {E : px_E} {d : Nat} {w : pw_W} {Q : Option Value → pw_W → Prop} {t : ct_T} (hw : w.1 = cs t) {x1 : Int32}  
    (k1 : px_Call E (d + 2) 0 0 mX10_token [.ref 61] (pw_sI (pw_sI w 61 19 ((pw_I w 61 19) - 1)) 61 23 ((pw_I w 61 23) - 1)) (fun v w' => px_W E mX10_formula (d + 3) 0 0 96 [.ref 61, .int x1, .null] (v.toList ++ []) w' Q)) :
    px_W E mX10_formula (d + 3) 0 0 72 [.ref 61, .int x1, .null] [] w Q := by
  refine px_aload_n dX10_formula_72 rfl rfl ?_
  refine px_dup dX10_formula_73 rfl ?_
  refine px_getI dX10_formula_74 fr_10_278 rfl (px_sh1 hw sh_61) ?_
  refine px_iconst dX10_formula_77 ic_1 ?_
  refine px_isub dX10_formula_78 ?_
  refine px_putI dX10_formula_79 fl_10_278 (Or.inl rfl) rfl (px_sh1 hw sh_61) rfl rfl (by omega) ?_
  refine px_aload_n dX10_formula_82 rfl rfl ?_
  refine px_dup dX10_formula_83 rfl ?_
  refine px_getIv (v := (pw_I w 61 23)) dX10_formula_84 fr_10_288 rfl (px_sh1 (hI hw) sh_61) rfl ?_
  refine px_iconst dX10_formula_87 ic_1 ?_
  refine px_isub dX10_formula_88 ?_
  refine px_putI dX10_formula_89 fl_10_288 (Or.inl rfl) rfl (px_sh1 (hI hw) sh_61) rfl rfl (by omega) ?_
  refine px_aload_n dX10_formula_92 rfl rfl ?_
  exact px_callV (As := []) (st := []) (rc := 0) (rs := 0) (mc := 0) (ms := 0) dX10_formula_93 lk_10_251 (px_sh1 (hI (hI hw)) sh_61) rfl rfl (Nat.le_of_ble_eq_true rfl) k1
theorem bX10_formula_96 {E : px_E} {d : Nat} {w : pw_W} {Q : Option Value → pw_W → Prop} {t : ct_T} (hw : w.1 = cs t) {x1 : Int32}  
    (k1 : px_W E mX10_formula (d + 3) 0 0 159 [.ref 61, .int x1, .null] [] w Q) :
    px_W E mX10_formula (d + 3) 0 0 96 [.ref 61, .int x1, .null] [] w Q := by
  refine px_goto (tgt := 159) dX10_formula_96 (by decide) ?_
  exact k1
theorem bX10_formula_99 {E : px_E} {d : Nat} {w : pw_W} {Q : Option Value → pw_W → Prop} {t : ct_T} (hw : w.1 = cs t) {x1 x2 : Int32}  
    (k1 : x2 = 0 → px_W E mX10_formula (d + 3) 0 0 157 [.ref 61, .null, .null] [] w Q)
    (k2 : ¬ x2 = 0 → ¬ (hX10_tight x2) = 4 → px_W E mX10_formula (d + 3) 0 0 118 [.ref 61, .int x1, .int x2] [] w Q)
    (k3 : ¬ x2 = 0 → (hX10_tight x2) = 4 → px_Call E (d + 2) 0 0 mX10_hasRelation [.ref 61] w (fun v w' => px_W E mX10_formula (d + 3) 0 0 115 [.ref 61, .int x1, .int x2] (v.toList ++ []) w' Q)) :
    px_W E mX10_formula (d + 3) 0 0 99 [.ref 61, .int x1, .int x2] [] w Q := by
  refine px_iload_n dX10_formula_99 rfl rfl ?_
  refine px_if_eq (tgt := 157) dX10_formula_100 (by decide) (fun h1 => ?_) (fun h1 => ?_)
  ·
    exact px_forget (k1 h1) ⟨Or.inr rfl, Or.inl rfl, Or.inl rfl, trivial⟩
  ·
    refine px_iload_n dX10_formula_103 rfl rfl ?_
    refine px_callS (As := [.int x2]) (st := []) (rc := 0) (rs := 0) (mc := 0) (ms := 0) dX10_formula_104 lk_10_281 rfl rfl (Nat.le_of_ble_eq_true rfl) (sX10_tight ?_)
    show px_W E mX10_formula (d + 3) 0 0 107 [.ref 61, .int x1, .int x2] [.int (hX10_tight x2)] w Q
    refine px_iconst dX10_formula_107 ic_4 ?_
    refine px_icmp_ne (tgt := 118) dX10_formula_108 (by decide) (fun h2 => ?_) (fun h2 => ?_)
    ·
      exact (k2 h1 h2)
    ·
      refine px_aload_n dX10_formula_111 rfl rfl ?_
      exact px_callV (As := []) (st := []) (rc := 0) (rs := 0) (mc := 0) (ms := 0) dX10_formula_112 lk_10_329 (px_sh1 hw sh_61) rfl rfl (Nat.le_of_ble_eq_true rfl) (k3 h1 h2)
theorem bX10_formula_115 {E : px_E} {d : Nat} {w : pw_W} {Q : Option Value → pw_W → Prop} {t : ct_T} (hw : w.1 = cs t) {x1 x2 y0 : Int32}  
    (k1 : ¬ y0 = 0 → px_W E mX10_formula (d + 3) 0 0 157 [.ref 61, .null, .null] [] w Q)
    (k2 : y0 = 0 → px_W E mX10_formula (d + 3) 0 0 118 [.ref 61, .int x1, .int x2] [] w Q) :
    px_W E mX10_formula (d + 3) 0 0 115 [.ref 61, .int x1, .int x2] [.int y0] w Q := by
  refine px_if_ne (tgt := 157) dX10_formula_115 (by decide) (fun h1 => ?_) (fun h1 => ?_)
  ·
    exact px_forget (k1 h1) ⟨Or.inr rfl, Or.inl rfl, Or.inl rfl, trivial⟩
  ·
    exact (k2 h1)
theorem bX10_formula_118 {E : px_E} {d : Nat} {w : pw_W} {Q : Option Value → pw_W → Prop} {t : ct_T} (hw : w.1 = cs t) {x1 x2 : Int32}  
    (k1 : px_Call E (d + 2) 0 0 mX10_close [.ref 61, .int (hX10_tight x2)] w (fun v w' => px_W E mX10_formula (d + 3) 0 0 126 [.ref 61, .int x1, .int x2] (v.toList ++ []) w' Q)) :
    px_W E mX10_formula (d + 3) 0 0 118 [.ref 61, .int x1, .int x2] [] w Q := by
  refine px_aload_n dX10_formula_118 rfl rfl ?_
  refine px_iload_n dX10_formula_119 rfl rfl ?_
  refine px_callS (As := [.int x2]) (st := [.ref 61]) (rc := 0) (rs := 0) (mc := 0) (ms := 0) dX10_formula_120 lk_10_281 rfl rfl (Nat.le_of_ble_eq_true rfl) (sX10_tight ?_)
  show px_W E mX10_formula (d + 3) 0 0 123 [.ref 61, .int x1, .int x2] [.int (hX10_tight x2), .ref 61] w Q
  exact px_callV (As := [.int (hX10_tight x2)]) (st := []) (rc := 0) (rs := 0) (mc := 0) (ms := 0) dX10_formula_123 lk_10_326 (px_sh1 hw sh_61) rfl rfl (Nat.le_of_ble_eq_true rfl) k1
theorem bX10_formula_126 {E : px_E} {d : Nat} {w : pw_W} {Q : Option Value → pw_W → Prop} {t : ct_T} (hw : w.1 = cs t) {x1 x2 : Int32}  (j1 : Nat) (hj1 : (pw_I w 61 19) = nI j1) (hl1 : j1 < 160)
    (k1 : px_Call E (d + 2) 0 0 mX10_token [.ref 61] (pw_sI (pw_sI w 68 j1 x2) 61 19 ((pw_I w 61 19) + 1)) (fun v w' => px_W E mX10_formula (d + 3) 0 0 150 [.ref 61, .int x1, .null] (v.toList ++ []) w' Q)) :
    px_W E mX10_formula (d + 3) 0 0 126 [.ref 61, .int x1, .int x2] [] w Q := by
  refine px_aload_n dX10_formula_126 rfl rfl ?_
  refine px_getR (v := 68) dX10_formula_127 fr_10_33 rfl (px_sh1 hw sh_61) (px_rf hw rf_61_15) (by decide) ?_
  refine px_aload_n dX10_formula_130 rfl rfl ?_
  refine px_getI dX10_formula_131 fr_10_278 rfl (px_sh1 hw sh_61) ?_
  refine px_iload_n dX10_formula_134 rfl rfl ?_
  refine px_iast dX10_formula_135 (px_sh2 hw sh_68) (by decide) j1 hj1 hl1 (by omega) ?_
  refine px_aload_n dX10_formula_136 rfl rfl ?_
  refine px_dup dX10_formula_137 rfl ?_
  refine px_getIv (v := (pw_I w 61 19)) dX10_formula_138 fr_10_278 rfl (px_sh1 (hI hw) sh_61) rfl ?_
  refine px_iconst dX10_formula_141 ic_1 ?_
  refine px_iadd dX10_formula_142 ?_
  refine px_putI dX10_formula_143 fl_10_278 (Or.inl rfl) rfl (px_sh1 (hI hw) sh_61) rfl rfl (by omega) ?_
  refine px_aload_n dX10_formula_146 rfl rfl ?_
  refine px_forget (ls' := [.ref 61, .int x1, .null]) ?_ ⟨Or.inr rfl, Or.inr rfl, Or.inl rfl, trivial⟩
  exact px_callV (As := []) (st := []) (rc := 0) (rs := 0) (mc := 0) (ms := 0) dX10_formula_147 lk_10_251 (px_sh1 (hI (hI hw)) sh_61) rfl rfl (Nat.le_of_ble_eq_true rfl) k1
theorem bX10_formula_150 {E : px_E} {d : Nat} {w : pw_W} {Q : Option Value → pw_W → Prop} {t : ct_T} (hw : w.1 = cs t) {x1 : Int32}  
    (k1 : px_Call E (d + 2) 0 0 mX10_unit [.ref 61] w (fun v w' => px_W E mX10_formula (d + 3) 0 0 154 [.ref 61, .int x1, .null] (v.toList ++ []) w' Q)) :
    px_W E mX10_formula (d + 3) 0 0 150 [.ref 61, .int x1, .null] [] w Q := by
  refine px_aload_n dX10_formula_150 rfl rfl ?_
  exact px_callV (As := []) (st := []) (rc := 0) (rs := 0) (mc := 0) (ms := 0) dX10_formula_151 lk_10_317 (px_sh1 hw sh_61) rfl rfl (Nat.le_of_ble_eq_true rfl) k1
theorem bX10_formula_154 {E : px_E} {d : Nat} {w : pw_W} {Q : Option Value → pw_W → Prop} {t : ct_T} (hw : w.1 = cs t) {x1 : Int32}  
    (k1 : px_W E mX10_formula (d + 3) 0 0 159 [.ref 61, .int x1, .null] [] w Q) :
    px_W E mX10_formula (d + 3) 0 0 154 [.ref 61, .int x1, .null] [] w Q := by
  refine px_goto (tgt := 159) dX10_formula_154 (by decide) ?_
  exact k1
theorem bX10_formula_157 {E : px_E} {d : Nat} {w : pw_W} {Q : Option Value → pw_W → Prop} {t : ct_T} (hw : w.1 = cs t)  
    (k1 : px_W E mX10_formula (d + 3) 0 0 159 [.ref 61, .int 0, .null] [] w Q) :
    px_W E mX10_formula (d + 3) 0 0 157 [.ref 61, .null, .null] [] w Q := by
  refine px_iconst dX10_formula_157 ic_0 ?_
  refine px_istore_n (ls' := [.ref 61, .int 0, .null]) dX10_formula_158 rfl ⟨by decide, rfl⟩ rfl ?_
  exact k1
theorem bX10_formula_159 {E : px_E} {d : Nat} {w : pw_W} {Q : Option Value → pw_W → Prop} {t : ct_T} (hw : w.1 = cs t) {x1 : Int32}  
    (k1 : px_W E mX10_formula (d + 3) 0 0 35 [.ref 61, .int x1, .null] [] w Q) :
    px_W E mX10_formula (d + 3) 0 0 159 [.ref 61, .int x1, .null] [] w Q := by
  refine px_goto (tgt := 35) dX10_formula_159 (by decide) ?_
  exact k1
theorem bX10_formula_162 {E : px_E} {d : Nat} {w : pw_W} {Q : Option Value → pw_W → Prop} {t : ct_T} (hw : w.1 = cs t)  
    (k1 : ¬ (pw_I w 61 2) = 0 → px_W E mX10_formula (d + 3) 0 0 181 [.ref 61, .null, .null] [] w Q)
    (k2 : (pw_I w 61 2) = 0 → px_Call E (d + 2) 0 0 mX10_hasBracket [.ref 61] w (fun v w' => px_W E mX10_formula (d + 3) 0 0 173 [.ref 61, .null, .null] (v.toList ++ []) w' Q)) :
    px_W E mX10_formula (d + 3) 0 0 162 [.ref 61, .null, .null] [] w Q := by
  refine px_aload_n dX10_formula_162 rfl rfl ?_
  refine px_getI dX10_formula_163 fr_10_197 rfl (px_sh1 hw sh_61) ?_
  refine px_if_ne (tgt := 181) dX10_formula_166 (by decide) (fun h1 => ?_) (fun h1 => ?_)
  ·
    exact (k1 h1)
  ·
    refine px_aload_n dX10_formula_169 rfl rfl ?_
    exact px_callV (As := []) (st := []) (rc := 0) (rs := 0) (mc := 0) (ms := 0) dX10_formula_170 lk_10_323 (px_sh1 hw sh_61) rfl rfl (Nat.le_of_ble_eq_true rfl) (k2 h1)
theorem bX10_formula_173 {E : px_E} {d : Nat} {w : pw_W} {Q : Option Value → pw_W → Prop} {t : ct_T} (hw : w.1 = cs t) {y0 : Int32}  
    (k1 : y0 = 0 → px_W E mX10_formula (d + 3) 0 0 181 [.ref 61, .null, .null] [] w Q)
    (k2 : ¬ y0 = 0 → px_Call E (d + 2) 0 0 mX10_wrong [.ref 61, .int 2] w (fun v w' => px_W E mX10_formula (d + 3) 0 0 181 [.ref 61, .null, .null] (v.toList ++ []) w' Q)) :
    px_W E mX10_formula (d + 3) 0 0 173 [.ref 61, .null, .null] [.int y0] w Q := by
  refine px_if_eq (tgt := 181) dX10_formula_173 (by decide) (fun h1 => ?_) (fun h1 => ?_)
  ·
    exact (k1 h1)
  ·
    refine px_aload_n dX10_formula_176 rfl rfl ?_
    refine px_iconst dX10_formula_177 ic_2 ?_
    exact px_callV (As := [.int 2]) (st := []) (rc := 0) (rs := 0) (mc := 0) (ms := 0) dX10_formula_178 lk_10_248 (px_sh1 hw sh_61) rfl rfl (Nat.le_of_ble_eq_true rfl) (k2 h1)
theorem bX10_formula_181 {E : px_E} {d : Nat} {w : pw_W} {Q : Option Value → pw_W → Prop} {t : ct_T} (hw : w.1 = cs t)  
    (k1 : ¬ (pw_I w 61 2) = 0 → px_W E mX10_formula (d + 3) 0 0 193 [.null, .null, .null] [] w Q)
    (k2 : (pw_I w 61 2) = 0 → px_Call E (d + 2) 0 0 mX10_close [.ref 61, .int 0] w (fun v w' => px_W E mX10_formula (d + 3) 0 0 193 [.null, .null, .null] (v.toList ++ []) w' Q)) :
    px_W E mX10_formula (d + 3) 0 0 181 [.ref 61, .null, .null] [] w Q := by
  refine px_aload_n dX10_formula_181 rfl rfl ?_
  refine px_getI dX10_formula_182 fr_10_197 rfl (px_sh1 hw sh_61) ?_
  refine px_if_ne (tgt := 193) dX10_formula_185 (by decide) (fun h1 => ?_) (fun h1 => ?_)
  ·
    exact px_forget (k1 h1) ⟨Or.inl rfl, Or.inl rfl, Or.inl rfl, trivial⟩
  ·
    refine px_aload_n dX10_formula_188 rfl rfl ?_
    refine px_iconst dX10_formula_189 ic_0 ?_
    refine px_forget (ls' := [.null, .null, .null]) ?_ ⟨Or.inl rfl, Or.inl rfl, Or.inl rfl, trivial⟩
    exact px_callV (As := [.int 0]) (st := []) (rc := 0) (rs := 0) (mc := 0) (ms := 0) dX10_formula_190 lk_10_326 (px_sh1 hw sh_61) rfl rfl (Nat.le_of_ble_eq_true rfl) (k2 h1)
theorem bX10_formula_193 {E : px_E} {d : Nat} {w : pw_W} {Q : Option Value → pw_W → Prop} {t : ct_T} (hw : w.1 = cs t)  
    (k1 : Q none w) :
    px_W E mX10_formula (d + 3) 0 0 193 [.null, .null, .null] [] w Q := by
  exact px_return dX10_formula_193 rfl k1
theorem dX10_members_0 : decode mX10_members.2.1 0 = .ok (.iconst 0, 1) := by decide +kernel
theorem dX10_members_1 : decode mX10_members.2.1 1 = .ok (.istore_n 1, 1) := by decide +kernel
theorem dX10_members_2 : decode mX10_members.2.1 2 = .ok (.iconst 0, 1) := by decide +kernel
theorem dX10_members_3 : decode mX10_members.2.1 3 = .ok (.istore_n 2, 1) := by decide +kernel
theorem dX10_members_4 : decode mX10_members.2.1 4 = .ok (.iload_n 2, 1) := by decide +kernel
theorem dX10_members_5 : decode mX10_members.2.1 5 = .ok (.bipush 9, 2) := by decide +kernel
theorem dX10_members_7 : decode mX10_members.2.1 7 = .ok (.if_icmp .ge 17, 3) := by decide +kernel
theorem dX10_members_10 : decode mX10_members.2.1 10 = .ok (.iload_n 1, 1) := by decide +kernel
theorem dX10_members_11 : decode mX10_members.2.1 11 = .ok (.iload_n 0, 1) := by decide +kernel
theorem dX10_members_12 : decode mX10_members.2.1 12 = .ok (.iload_n 2, 1) := by decide +kernel
theorem dX10_members_13 : decode mX10_members.2.1 13 = .ok (.ishr, 1) := by decide +kernel
theorem dX10_members_14 : decode mX10_members.2.1 14 = .ok (.iconst 1, 1) := by decide +kernel
theorem dX10_members_15 : decode mX10_members.2.1 15 = .ok (.iand, 1) := by decide +kernel
theorem dX10_members_16 : decode mX10_members.2.1 16 = .ok (.iadd, 1) := by decide +kernel
theorem dX10_members_17 : decode mX10_members.2.1 17 = .ok (.istore_n 1, 1) := by decide +kernel
theorem dX10_members_18 : decode mX10_members.2.1 18 = .ok (.iinc 2 1, 3) := by decide +kernel
theorem dX10_members_21 : decode mX10_members.2.1 21 = .ok (.goto (-17), 3) := by decide +kernel
theorem dX10_members_24 : decode mX10_members.2.1 24 = .ok (.iload_n 1, 1) := by decide +kernel
theorem dX10_members_25 : decode mX10_members.2.1 25 = .ok (.ireturn, 1) := by decide +kernel
theorem bX10_members_0 {E : px_E} {d : Nat} {w : pw_W} {Q : Option Value → pw_W → Prop} {x0 : Int32}  
    (k1 : px_W E mX10_members (d + 1) 0 0 4 [.int x0, .int 0, .int 0] [] w Q) :
    px_W E mX10_members (d + 1) 0 0 0 [.int x0, .null, .null] [] w Q := by
  refine px_iconst dX10_members_0 ic_0 ?_
  refine px_istore_n (ls' := [.int x0, .int 0, .null]) dX10_members_1 rfl ⟨by decide, rfl⟩ rfl ?_
  refine px_iconst dX10_members_2 ic_0 ?_
  refine px_istore_n (ls' := [.int x0, .int 0, .int 0]) dX10_members_3 rfl ⟨by decide, rfl⟩ rfl ?_
  exact k1
theorem eX10_members {E : px_E} {d : Nat} {w : pw_W} {Q : Option Value → pw_W → Prop} {x0 : Int32}  
    (k1 : px_W E mX10_members (d + 1) 0 0 4 [.int x0, .int 0, .int 0] [] w Q) :
    px_Call E (d + 1) 0 0 mX10_members [.int x0] w Q :=
  px_enter (k := 2) (by decide) (Nat.le_of_ble_eq_true rfl) rfl (px_forget (bX10_members_0 k1) ⟨Or.inr rfl, Or.inl rfl, Or.inl rfl, trivial⟩)
theorem bX10_members_4 {E : px_E} {d : Nat} {w : pw_W} {Q : Option Value → pw_W → Prop} {x0 x1 x2 : Int32}  
    (k1 : 9 ≤ x2 → Q (some (.int x1)) w)
    (k2 : ¬ 9 ≤ x2 → px_W E mX10_members (d + 1) 0 0 4 [.int x0, .int (x1 + ((js_shr x0 x2) &&& 1)), .int (x2 + 1)] [] w Q) :
    px_W E mX10_members (d + 1) 0 0 4 [.int x0, .int x1, .int x2] [] w Q := by
  refine px_iload_n dX10_members_4 rfl rfl ?_
  refine px_bipush dX10_members_5 bp_9 ?_
  refine px_icmp_ge (tgt := 24) dX10_members_7 (by decide) (fun h1 => ?_) (fun h1 => ?_)
  ·
    refine px_iload_n dX10_members_24 rfl rfl ?_
    exact px_ireturn dX10_members_25 rfl rfl (k1 h1)
  ·
    refine px_iload_n dX10_members_10 rfl rfl ?_
    refine px_iload_n dX10_members_11 rfl rfl ?_
    refine px_iload_n dX10_members_12 rfl rfl ?_
    refine px_ishr dX10_members_13 ?_
    refine px_iconst dX10_members_14 ic_1 ?_
    refine px_iand dX10_members_15 ?_
    refine px_iadd dX10_members_16 ?_
    refine px_istore_n (ls' := [.int x0, .int (x1 + ((js_shr x0 x2) &&& 1)), .int x2]) dX10_members_17 rfl ⟨by decide, rfl⟩ rfl ?_
    refine px_iinc (ls' := [.int x0, .int (x1 + ((js_shr x0 x2) &&& 1)), .int (x2 + 1)]) dX10_members_18 ⟨by decide, rfl⟩ rfl rfl rfl ?_
    refine px_goto (tgt := 4) dX10_members_21 (by decide) ?_
    exact (k2 h1)
theorem dX10_touchOf_0 : decode mX10_touchOf.2.1 0 = .ok (.aload_n 0, 1) := by decide +kernel
theorem dX10_touchOf_1 : decode mX10_touchOf.2.1 1 = .ok (.getfield 39, 3) := by decide +kernel
theorem dX10_touchOf_4 : decode mX10_touchOf.2.1 4 = .ok (.iconst 0, 1) := by decide +kernel
theorem dX10_touchOf_5 : decode mX10_touchOf.2.1 5 = .ok (.iload_n 1, 1) := by decide +kernel
theorem dX10_touchOf_6 : decode mX10_touchOf.2.1 6 = .ok (.iastore, 1) := by decide +kernel
theorem dX10_touchOf_7 : decode mX10_touchOf.2.1 7 = .ok (.aload_n 0, 1) := by decide +kernel
theorem dX10_touchOf_8 : decode mX10_touchOf.2.1 8 = .ok (.getfield 39, 3) := by decide +kernel
theorem dX10_touchOf_11 : decode mX10_touchOf.2.1 11 = .ok (.iconst 1, 1) := by decide +kernel
theorem dX10_touchOf_12 : decode mX10_touchOf.2.1 12 = .ok (.iload_n 2, 1) := by decide +kernel
theorem dX10_touchOf_13 : decode mX10_touchOf.2.1 13 = .ok (.iastore, 1) := by decide +kernel
theorem dX10_touchOf_14 : decode mX10_touchOf.2.1 14 = .ok (.aload_n 0, 1) := by decide +kernel
theorem dX10_touchOf_15 : decode mX10_touchOf.2.1 15 = .ok (.getfield 39, 3) := by decide +kernel
theorem dX10_touchOf_18 : decode mX10_touchOf.2.1 18 = .ok (.iconst 2, 1) := by decide +kernel
theorem dX10_touchOf_19 : decode mX10_touchOf.2.1 19 = .ok (.iload_n 3, 1) := by decide +kernel
theorem dX10_touchOf_20 : decode mX10_touchOf.2.1 20 = .ok (.iastore, 1) := by decide +kernel
theorem dX10_touchOf_21 : decode mX10_touchOf.2.1 21 = .ok (.aload_n 0, 1) := by decide +kernel
theorem dX10_touchOf_22 : decode mX10_touchOf.2.1 22 = .ok (.getfield 39, 3) := by decide +kernel
theorem dX10_touchOf_25 : decode mX10_touchOf.2.1 25 = .ok (.iconst 3, 1) := by decide +kernel
theorem dX10_touchOf_26 : decode mX10_touchOf.2.1 26 = .ok (.aload_n 0, 1) := by decide +kernel
theorem dX10_touchOf_27 : decode mX10_touchOf.2.1 27 = .ok (.getfield 102, 3) := by decide +kernel
theorem dX10_touchOf_30 : decode mX10_touchOf.2.1 30 = .ok (.bipush 13, 2) := by decide +kernel
theorem dX10_touchOf_32 : decode mX10_touchOf.2.1 32 = .ok (.iaload, 1) := by decide +kernel
theorem dX10_touchOf_33 : decode mX10_touchOf.2.1 33 = .ok (.iastore, 1) := by decide +kernel
theorem dX10_touchOf_34 : decode mX10_touchOf.2.1 34 = .ok (.aload_n 0, 1) := by decide +kernel
theorem dX10_touchOf_35 : decode mX10_touchOf.2.1 35 = .ok (.getfield 39, 3) := by decide +kernel
theorem dX10_touchOf_38 : decode mX10_touchOf.2.1 38 = .ok (.iconst 4, 1) := by decide +kernel
theorem dX10_touchOf_39 : decode mX10_touchOf.2.1 39 = .ok (.aload_n 0, 1) := by decide +kernel
theorem dX10_touchOf_40 : decode mX10_touchOf.2.1 40 = .ok (.getfield 102, 3) := by decide +kernel
theorem dX10_touchOf_43 : decode mX10_touchOf.2.1 43 = .ok (.bipush 13, 2) := by decide +kernel
theorem dX10_touchOf_45 : decode mX10_touchOf.2.1 45 = .ok (.iaload, 1) := by decide +kernel
theorem dX10_touchOf_46 : decode mX10_touchOf.2.1 46 = .ok (.bipush 7, 2) := by decide +kernel
theorem dX10_touchOf_48 : decode mX10_touchOf.2.1 48 = .ok (.idiv, 1) := by decide +kernel
theorem dX10_touchOf_49 : decode mX10_touchOf.2.1 49 = .ok (.iastore, 1) := by decide +kernel
theorem dX10_touchOf_50 : decode mX10_touchOf.2.1 50 = .ok (.aload_n 0, 1) := by decide +kernel
theorem dX10_touchOf_51 : decode mX10_touchOf.2.1 51 = .ok (.getfield 336, 3) := by decide +kernel
theorem dX10_touchOf_54 : decode mX10_touchOf.2.1 54 = .ok (.ifCond .ne 14, 3) := by decide +kernel
theorem dX10_touchOf_57 : decode mX10_touchOf.2.1 57 = .ok (.bipush 9, 2) := by decide +kernel
theorem dX10_touchOf_59 : decode mX10_touchOf.2.1 59 = .ok (.iload_n 1, 1) := by decide +kernel
theorem dX10_touchOf_60 : decode mX10_touchOf.2.1 60 = .ok (.isub, 1) := by decide +kernel
theorem dX10_touchOf_61 : decode mX10_touchOf.2.1 61 = .ok (.iconst 0, 1) := by decide +kernel
theorem dX10_touchOf_62 : decode mX10_touchOf.2.1 62 = .ok (.bipush 20, 2) := by decide +kernel
theorem dX10_touchOf_64 : decode mX10_touchOf.2.1 64 = .ok (.invokestatic 339, 3) := by decide +kernel
theorem dX10_touchOf_67 : decode mX10_touchOf.2.1 67 = .ok (.ireturn, 1) := by decide +kernel
theorem dX10_touchOf_68 : decode mX10_touchOf.2.1 68 = .ok (.iconst 0, 1) := by decide +kernel
theorem dX10_touchOf_69 : decode mX10_touchOf.2.1 69 = .ok (.istore 4, 2) := by decide +kernel
theorem dX10_touchOf_71 : decode mX10_touchOf.2.1 71 = .ok (.iconst 0, 1) := by decide +kernel
theorem dX10_touchOf_72 : decode mX10_touchOf.2.1 72 = .ok (.istore 5, 2) := by decide +kernel
theorem dX10_touchOf_74 : decode mX10_touchOf.2.1 74 = .ok (.iload 5, 2) := by decide +kernel
theorem dX10_touchOf_76 : decode mX10_touchOf.2.1 76 = .ok (.aload_n 0, 1) := by decide +kernel
theorem dX10_touchOf_77 : decode mX10_touchOf.2.1 77 = .ok (.getfield 343, 3) := by decide +kernel
theorem dX10_touchOf_80 : decode mX10_touchOf.2.1 80 = .ok (.if_icmp .ge 156, 3) := by decide +kernel
theorem dX10_touchOf_83 : decode mX10_touchOf.2.1 83 = .ok (.aload_n 0, 1) := by decide +kernel
theorem dX10_touchOf_84 : decode mX10_touchOf.2.1 84 = .ok (.getfield 27, 3) := by decide +kernel
theorem dX10_touchOf_87 : decode mX10_touchOf.2.1 87 = .ok (.iload 5, 2) := by decide +kernel
theorem dX10_touchOf_89 : decode mX10_touchOf.2.1 89 = .ok (.iaload, 1) := by decide +kernel
theorem dX10_touchOf_90 : decode mX10_touchOf.2.1 90 = .ok (.ifCond .eq 14, 3) := by decide +kernel
theorem dX10_touchOf_93 : decode mX10_touchOf.2.1 93 = .ok (.aload_n 0, 1) := by decide +kernel
theorem dX10_touchOf_94 : decode mX10_touchOf.2.1 94 = .ok (.getfield 27, 3) := by decide +kernel
theorem dX10_touchOf_97 : decode mX10_touchOf.2.1 97 = .ok (.iload 5, 2) := by decide +kernel
theorem dX10_touchOf_99 : decode mX10_touchOf.2.1 99 = .ok (.iaload, 1) := by decide +kernel
theorem dX10_touchOf_100 : decode mX10_touchOf.2.1 100 = .ok (.iconst 1, 1) := by decide +kernel
theorem dX10_touchOf_101 : decode mX10_touchOf.2.1 101 = .ok (.if_icmp .ne 48, 3) := by decide +kernel
theorem dX10_touchOf_104 : decode mX10_touchOf.2.1 104 = .ok (.aload_n 0, 1) := by decide +kernel
theorem dX10_touchOf_105 : decode mX10_touchOf.2.1 105 = .ok (.getfield 36, 3) := by decide +kernel
theorem dX10_touchOf_108 : decode mX10_touchOf.2.1 108 = .ok (.iload 4, 2) := by decide +kernel
theorem dX10_touchOf_110 : decode mX10_touchOf.2.1 110 = .ok (.aload_n 0, 1) := by decide +kernel
theorem dX10_touchOf_111 : decode mX10_touchOf.2.1 111 = .ok (.getfield 27, 3) := by decide +kernel
theorem dX10_touchOf_114 : decode mX10_touchOf.2.1 114 = .ok (.iload 5, 2) := by decide +kernel
theorem dX10_touchOf_116 : decode mX10_touchOf.2.1 116 = .ok (.iaload, 1) := by decide +kernel
theorem dX10_touchOf_117 : decode mX10_touchOf.2.1 117 = .ok (.ifCond .ne 13, 3) := by decide +kernel
theorem dX10_touchOf_120 : decode mX10_touchOf.2.1 120 = .ok (.aload_n 0, 1) := by decide +kernel
theorem dX10_touchOf_121 : decode mX10_touchOf.2.1 121 = .ok (.getfield 30, 3) := by decide +kernel
theorem dX10_touchOf_124 : decode mX10_touchOf.2.1 124 = .ok (.iload 5, 2) := by decide +kernel
theorem dX10_touchOf_126 : decode mX10_touchOf.2.1 126 = .ok (.iaload, 1) := by decide +kernel
theorem dX10_touchOf_127 : decode mX10_touchOf.2.1 127 = .ok (.goto 15, 3) := by decide +kernel
theorem dX10_touchOf_130 : decode mX10_touchOf.2.1 130 = .ok (.aload_n 0, 1) := by decide +kernel
theorem dX10_touchOf_131 : decode mX10_touchOf.2.1 131 = .ok (.getfield 39, 3) := by decide +kernel
theorem dX10_touchOf_134 : decode mX10_touchOf.2.1 134 = .ok (.aload_n 0, 1) := by decide +kernel
theorem dX10_touchOf_135 : decode mX10_touchOf.2.1 135 = .ok (.getfield 30, 3) := by decide +kernel
theorem dX10_touchOf_138 : decode mX10_touchOf.2.1 138 = .ok (.iload 5, 2) := by decide +kernel
theorem dX10_touchOf_140 : decode mX10_touchOf.2.1 140 = .ok (.iaload, 1) := by decide +kernel
theorem dX10_touchOf_141 : decode mX10_touchOf.2.1 141 = .ok (.iaload, 1) := by decide +kernel
theorem dX10_touchOf_142 : decode mX10_touchOf.2.1 142 = .ok (.iastore, 1) := by decide +kernel
theorem dX10_touchOf_143 : decode mX10_touchOf.2.1 143 = .ok (.iinc 4 1, 3) := by decide +kernel
theorem dX10_touchOf_146 : decode mX10_touchOf.2.1 146 = .ok (.goto 84, 3) := by decide +kernel
theorem dX10_touchOf_149 : decode mX10_touchOf.2.1 149 = .ok (.aload_n 0, 1) := by decide +kernel
theorem dX10_touchOf_150 : decode mX10_touchOf.2.1 150 = .ok (.getfield 27, 3) := by decide +kernel
theorem dX10_touchOf_153 : decode mX10_touchOf.2.1 153 = .ok (.iload 5, 2) := by decide +kernel
theorem dX10_touchOf_155 : decode mX10_touchOf.2.1 155 = .ok (.iaload, 1) := by decide +kernel
theorem dX10_touchOf_156 : decode mX10_touchOf.2.1 156 = .ok (.iconst 2, 1) := by decide +kernel
theorem dX10_touchOf_157 : decode mX10_touchOf.2.1 157 = .ok (.if_icmp .ne 35, 3) := by decide +kernel
theorem dX10_touchOf_160 : decode mX10_touchOf.2.1 160 = .ok (.aload_n 0, 1) := by decide +kernel
theorem dX10_touchOf_161 : decode mX10_touchOf.2.1 161 = .ok (.getfield 36, 3) := by decide +kernel
theorem dX10_touchOf_164 : decode mX10_touchOf.2.1 164 = .ok (.iload 4, 2) := by decide +kernel
theorem dX10_touchOf_166 : decode mX10_touchOf.2.1 166 = .ok (.iconst 1, 1) := by decide +kernel
theorem dX10_touchOf_167 : decode mX10_touchOf.2.1 167 = .ok (.isub, 1) := by decide +kernel
theorem dX10_touchOf_168 : decode mX10_touchOf.2.1 168 = .ok (.aload_n 0, 1) := by decide +kernel
theorem dX10_touchOf_169 : decode mX10_touchOf.2.1 169 = .ok (.getfield 36, 3) := by decide +kernel
theorem dX10_touchOf_172 : decode mX10_touchOf.2.1 172 = .ok (.iload 4, 2) := by decide +kernel
theorem dX10_touchOf_174 : decode mX10_touchOf.2.1 174 = .ok (.iconst 1, 1) := by decide +kernel
theorem dX10_touchOf_175 : decode mX10_touchOf.2.1 175 = .ok (.isub, 1) := by decide +kernel
theorem dX10_touchOf_176 : decode mX10_touchOf.2.1 176 = .ok (.iaload, 1) := by decide +kernel
theorem dX10_touchOf_177 : decode mX10_touchOf.2.1 177 = .ok (.ifCond .ne 7, 3) := by decide +kernel
theorem dX10_touchOf_180 : decode mX10_touchOf.2.1 180 = .ok (.iconst 1, 1) := by decide +kernel
theorem dX10_touchOf_181 : decode mX10_touchOf.2.1 181 = .ok (.goto 4, 3) := by decide +kernel
theorem dX10_touchOf_184 : decode mX10_touchOf.2.1 184 = .ok (.iconst 0, 1) := by decide +kernel
theorem dX10_touchOf_185 : decode mX10_touchOf.2.1 185 = .ok (.invokestatic 332, 3) := by decide +kernel
theorem dX10_touchOf_188 : decode mX10_touchOf.2.1 188 = .ok (.iastore, 1) := by decide +kernel
theorem dX10_touchOf_189 : decode mX10_touchOf.2.1 189 = .ok (.goto 41, 3) := by decide +kernel
theorem dX10_touchOf_192 : decode mX10_touchOf.2.1 192 = .ok (.iinc 4 (-1), 3) := by decide +kernel
theorem dX10_touchOf_195 : decode mX10_touchOf.2.1 195 = .ok (.aload_n 0, 1) := by decide +kernel
theorem dX10_touchOf_196 : decode mX10_touchOf.2.1 196 = .ok (.getfield 36, 3) := by decide +kernel
theorem dX10_touchOf_199 : decode mX10_touchOf.2.1 199 = .ok (.iload 4, 2) := by decide +kernel
theorem dX10_touchOf_201 : decode mX10_touchOf.2.1 201 = .ok (.iconst 1, 1) := by decide +kernel
theorem dX10_touchOf_202 : decode mX10_touchOf.2.1 202 = .ok (.isub, 1) := by decide +kernel
theorem dX10_touchOf_203 : decode mX10_touchOf.2.1 203 = .ok (.aload_n 0, 1) := by decide +kernel
theorem dX10_touchOf_204 : decode mX10_touchOf.2.1 204 = .ok (.getfield 30, 3) := by decide +kernel
theorem dX10_touchOf_207 : decode mX10_touchOf.2.1 207 = .ok (.iload 5, 2) := by decide +kernel
theorem dX10_touchOf_209 : decode mX10_touchOf.2.1 209 = .ok (.iaload, 1) := by decide +kernel
theorem dX10_touchOf_210 : decode mX10_touchOf.2.1 210 = .ok (.aload_n 0, 1) := by decide +kernel
theorem dX10_touchOf_211 : decode mX10_touchOf.2.1 211 = .ok (.getfield 36, 3) := by decide +kernel
theorem dX10_touchOf_214 : decode mX10_touchOf.2.1 214 = .ok (.iload 4, 2) := by decide +kernel
theorem dX10_touchOf_216 : decode mX10_touchOf.2.1 216 = .ok (.iconst 1, 1) := by decide +kernel
theorem dX10_touchOf_217 : decode mX10_touchOf.2.1 217 = .ok (.isub, 1) := by decide +kernel
theorem dX10_touchOf_218 : decode mX10_touchOf.2.1 218 = .ok (.iaload, 1) := by decide +kernel
theorem dX10_touchOf_219 : decode mX10_touchOf.2.1 219 = .ok (.aload_n 0, 1) := by decide +kernel
theorem dX10_touchOf_220 : decode mX10_touchOf.2.1 220 = .ok (.getfield 36, 3) := by decide +kernel
theorem dX10_touchOf_223 : decode mX10_touchOf.2.1 223 = .ok (.iload 4, 2) := by decide +kernel
theorem dX10_touchOf_225 : decode mX10_touchOf.2.1 225 = .ok (.iaload, 1) := by decide +kernel
theorem dX10_touchOf_226 : decode mX10_touchOf.2.1 226 = .ok (.invokestatic 346, 3) := by decide +kernel
theorem dX10_touchOf_229 : decode mX10_touchOf.2.1 229 = .ok (.iastore, 1) := by decide +kernel
theorem dX10_touchOf_230 : decode mX10_touchOf.2.1 230 = .ok (.iinc 5 1, 3) := by decide +kernel
theorem dX10_touchOf_233 : decode mX10_touchOf.2.1 233 = .ok (.goto (-159), 3) := by decide +kernel
theorem dX10_touchOf_236 : decode mX10_touchOf.2.1 236 = .ok (.aload_n 0, 1) := by decide +kernel
theorem dX10_touchOf_237 : decode mX10_touchOf.2.1 237 = .ok (.getfield 36, 3) := by decide +kernel
theorem dX10_touchOf_240 : decode mX10_touchOf.2.1 240 = .ok (.iconst 0, 1) := by decide +kernel
theorem dX10_touchOf_241 : decode mX10_touchOf.2.1 241 = .ok (.iaload, 1) := by decide +kernel
theorem dX10_touchOf_242 : decode mX10_touchOf.2.1 242 = .ok (.iconst 0, 1) := by decide +kernel
theorem dX10_touchOf_243 : decode mX10_touchOf.2.1 243 = .ok (.bipush 20, 2) := by decide +kernel
theorem dX10_touchOf_245 : decode mX10_touchOf.2.1 245 = .ok (.invokestatic 339, 3) := by decide +kernel
theorem dX10_touchOf_248 : decode mX10_touchOf.2.1 248 = .ok (.ireturn, 1) := by decide +kernel
theorem bX10_touchOf_0 {E : px_E} {d : Nat} {w : pw_W} {Q : Option Value → pw_W → Prop} {t : ct_T} (hw : w.1 = cs t) {x1 x2 x3 : Int32}  
    (k1 : ¬ (pw_I w 61 25) = 0 → px_W E mX10_touchOf (d + 3) 0 0 74 [.ref 61, .null, .null, .null, .int 0, .int 0] [] (pw_sI (pw_sI (pw_sI (pw_sI (pw_sI w 70 0 x1) 70 1 x2) 70 2 x3) 70 3 (pw_I w 90 13)) 70 4 ((pw_I w 90 13) / 7)) Q)
    (k2 : (pw_I w 61 25) = 0 → Q (some (.int (hX10_within (9 - x1) 0 20))) (pw_sI (pw_sI (pw_sI (pw_sI (pw_sI w 70 0 x1) 70 1 x2) 70 2 x3) 70 3 (pw_I w 90 13)) 70 4 ((pw_I w 90 13) / 7))) :
    px_W E mX10_touchOf (d + 3) 0 0 0 [.ref 61, .int x1, .int x2, .int x3, .null, .null] [] w Q := by
  refine px_aload_n dX10_touchOf_0 rfl rfl ?_
  refine px_getR (v := 70) dX10_touchOf_1 fr_10_39 rfl (px_sh1 hw sh_61) (px_rf hw rf_61_26) (by decide) ?_
  refine px_iconst dX10_touchOf_4 ic_0 ?_
  refine px_iload_n dX10_touchOf_5 rfl rfl ?_
  refine px_iast dX10_touchOf_6 (px_sh2 hw sh_70) (by decide) 0 rfl (by decide) (by omega) ?_
  refine px_aload_n dX10_touchOf_7 rfl rfl ?_
  refine px_getR (v := 70) dX10_touchOf_8 fr_10_39 rfl (px_sh1 (hI hw) sh_61) (px_rf (hI hw) rf_61_26) (by decide) ?_
  refine px_iconst dX10_touchOf_11 ic_1 ?_
  refine px_iload_n dX10_touchOf_12 rfl rfl ?_
  refine px_iast dX10_touchOf_13 (px_sh2 (hI hw) sh_70) (by decide) 1 rfl (by decide) (by omega) ?_
  refine px_aload_n dX10_touchOf_14 rfl rfl ?_
  refine px_getR (v := 70) dX10_touchOf_15 fr_10_39 rfl (px_sh1 (hI (hI hw)) sh_61) (px_rf (hI (hI hw)) rf_61_26) (by decide) ?_
  refine px_iconst dX10_touchOf_18 ic_2 ?_
  refine px_iload_n dX10_touchOf_19 rfl rfl ?_
  refine px_iast dX10_touchOf_20 (px_sh2 (hI (hI hw)) sh_70) (by decide) 2 rfl (by decide) (by omega) ?_
  refine px_aload_n dX10_touchOf_21 rfl rfl ?_
  refine px_getR (v := 70) dX10_touchOf_22 fr_10_39 rfl (px_sh1 (hI (hI (hI hw))) sh_61) (px_rf (hI (hI (hI hw))) rf_61_26) (by decide) ?_
  refine px_iconst dX10_touchOf_25 ic_3 ?_
  refine px_aload_n dX10_touchOf_26 rfl rfl ?_
  refine px_getR (v := 90) dX10_touchOf_27 fr_10_102 rfl (px_sh1 (hI (hI (hI hw))) sh_61) (px_rf (hI (hI (hI hw))) rf_61_61) (by decide) ?_
  refine px_bipush dX10_touchOf_30 bp_13 ?_
  refine px_ialdv (v := (pw_I w 90 13)) dX10_touchOf_32 (px_sh2 (hI (hI (hI hw))) sh_90) (by decide) 13 rfl (by decide) rfl ?_
  refine px_iast dX10_touchOf_33 (px_sh2 (hI (hI (hI hw))) sh_70) (by decide) 3 rfl (by decide) (by omega) ?_
  refine px_aload_n dX10_touchOf_34 rfl rfl ?_
  refine px_getR (v := 70) dX10_touchOf_35 fr_10_39 rfl (px_sh1 (hI (hI (hI (hI hw)))) sh_61) (px_rf (hI (hI (hI (hI hw)))) rf_61_26) (by decide) ?_
  refine px_iconst dX10_touchOf_38 ic_4 ?_
  refine px_aload_n dX10_touchOf_39 rfl rfl ?_
  refine px_getR (v := 90) dX10_touchOf_40 fr_10_102 rfl (px_sh1 (hI (hI (hI (hI hw)))) sh_61) (px_rf (hI (hI (hI (hI hw)))) rf_61_61) (by decide) ?_
  refine px_bipush dX10_touchOf_43 bp_13 ?_
  refine px_ialdv (v := (pw_I w 90 13)) dX10_touchOf_45 (px_sh2 (hI (hI (hI (hI hw)))) sh_90) (by decide) 13 rfl (by decide) rfl ?_
  refine px_bipush dX10_touchOf_46 bp_7 ?_
  refine px_idiv dX10_touchOf_48 (by decide) ?_
  refine px_iast dX10_touchOf_49 (px_sh2 (hI (hI (hI (hI hw)))) sh_70) (by decide) 4 rfl (by decide) (by omega) ?_
  refine px_aload_n dX10_touchOf_50 rfl rfl ?_
  refine px_getIv (v := (pw_I w 61 25)) dX10_touchOf_51 fr_10_336 rfl (px_sh1 (hI (hI (hI (hI (hI hw))))) sh_61) rfl ?_
  refine px_if_ne (tgt := 68) dX10_touchOf_54 (by decide) (fun h1 => ?_) (fun h1 => ?_)
  ·
    refine px_iconst dX10_touchOf_68 ic_0 ?_
    refine px_istore (ls' := [.ref 61, .int x1, .int x2, .int x3, .int 0, .null]) dX10_touchOf_69 ⟨by decide, rfl⟩ rfl ?_
    refine px_iconst dX10_touchOf_71 ic_0 ?_
    refine px_istore (ls' := [.ref 61, .int x1, .int x2, .int x3, .int 0, .int 0]) dX10_touchOf_72 ⟨by decide, rfl⟩ rfl ?_
    exact px_forget (k1 h1) ⟨Or.inr rfl, Or.inl rfl, Or.inl rfl, Or.inl rfl, Or.inr rfl, Or.inr rfl, trivial⟩
  ·
    refine px_bipush dX10_touchOf_57 bp_9 ?_
    refine px_iload_n dX10_touchOf_59 rfl rfl ?_
    refine px_isub dX10_touchOf_60 ?_
    refine px_iconst dX10_touchOf_61 ic_0 ?_
    refine px_bipush dX10_touchOf_62 bp_20 ?_
    refine px_forget (ls' := [.null, .null, .null, .null, .null, .null]) ?_ ⟨Or.inl rfl, Or.inl rfl, Or.inl rfl, Or.inl rfl, Or.inl rfl, Or.inl rfl, trivial⟩
    refine px_callS (As := [.int (9 - x1), .int 0, .int 20]) (st := []) (rc := 0) (rs := 0) (mc := 0) (ms := 0) dX10_touchOf_64 lk_10_339 rfl rfl (Nat.le_of_ble_eq_true rfl) (sX10_within ?_)
    show px_W E mX10_touchOf (d + 3) 0 0 67 [.null, .null, .null, .null, .null, .null] [.int (hX10_within (9 - x1) 0 20)] (pw_sI (pw_sI (pw_sI (pw_sI (pw_sI w 70 0 x1) 70 1 x2) 70 2 x3) 70 3 (pw_I w 90 13)) 70 4 ((pw_I w 90 13) / 7)) Q
    exact px_ireturn dX10_touchOf_67 rfl rfl (k2 h1)
theorem eX10_touchOf {E : px_E} {d : Nat} {w : pw_W} {Q : Option Value → pw_W → Prop} {t : ct_T} (hw : w.1 = cs t) {x1 x2 x3 : Int32}  
    (k1 : ¬ (pw_I w 61 25) = 0 → px_W E mX10_touchOf (d + 3) 0 0 74 [.ref 61, .null, .null, .null, .int 0, .int 0] [] (pw_sI (pw_sI (pw_sI (pw_sI (pw_sI w 70 0 x1) 70 1 x2) 70 2 x3) 70 3 (pw_I w 90 13)) 70 4 ((pw_I w 90 13) / 7)) Q)
    (k2 : (pw_I w 61 25) = 0 → Q (some (.int (hX10_within (9 - x1) 0 20))) (pw_sI (pw_sI (pw_sI (pw_sI (pw_sI w 70 0 x1) 70 1 x2) 70 2 x3) 70 3 (pw_I w 90 13)) 70 4 ((pw_I w 90 13) / 7))) :
    px_Call E (d + 3) 0 0 mX10_touchOf [.ref 61, .int x1, .int x2, .int x3] w Q :=
  px_enter (k := 2) (by decide) (Nat.le_of_ble_eq_true rfl) rfl (px_forget (bX10_touchOf_0 hw k1 k2) ⟨Or.inr rfl, Or.inr rfl, Or.inr rfl, Or.inr rfl, Or.inl rfl, Or.inl rfl, trivial⟩)
theorem bX10_touchOf_74 {E : px_E} {d : Nat} {w : pw_W} {Q : Option Value → pw_W → Prop} {t : ct_T} (hw : w.1 = cs t) {x4 x5 : Int32}  
    (k1 : (pw_I w 61 18) ≤ x5 → px_W E mX10_touchOf (d + 3) 0 0 236 [.ref 61, .null, .null, .null, .null, .null] [] w Q)
    (k2 : ¬ (pw_I w 61 18) ≤ x5 → px_W E mX10_touchOf (d + 3) 0 0 83 [.ref 61, .null, .null, .null, .int x4, .int x5] [] w Q) :
    px_W E mX10_touchOf (d + 3) 0 0 74 [.ref 61, .null, .null, .null, .int x4, .int x5] [] w Q := by
  refine px_iload dX10_touchOf_74 rfl ?_
  refine px_aload_n dX10_touchOf_76 rfl rfl ?_
  refine px_getI dX10_touchOf_77 fr_10_343 rfl (px_sh1 hw sh_61) ?_
  refine px_icmp_ge (tgt := 236) dX10_touchOf_80 (by decide) (fun h1 => ?_) (fun h1 => ?_)
  ·
    exact px_forget (k1 h1) ⟨Or.inr rfl, Or.inl rfl, Or.inl rfl, Or.inl rfl, Or.inl rfl, Or.inl rfl, trivial⟩
  ·
    exact (k2 h1)
theorem bX10_touchOf_83 {E : px_E} {d : Nat} {w : pw_W} {Q : Option Value → pw_W → Prop} {t : ct_T} (hw : w.1 = cs t) {x4 x5 : Int32}  (j1 : Nat) (hj1 : x5 = nI j1) (hl1 : j1 < 320)
    (k1 : (pw_I w 66 j1) = 0 → px_W E mX10_touchOf (d + 3) 0 0 104 [.ref 61, .null, .null, .null, .int x4, .int x5] [] w Q)
    (k2 : ¬ (pw_I w 66 j1) = 0 → px_W E mX10_touchOf (d + 3) 0 0 93 [.ref 61, .null, .null, .null, .int x4, .int x5] [] w Q) :
    px_W E mX10_touchOf (d + 3) 0 0 83 [.ref 61, .null, .null, .null, .int x4, .int x5] [] w Q := by
  refine px_aload_n dX10_touchOf_83 rfl rfl ?_
  refine px_getR (v := 66) dX10_touchOf_84 fr_10_27 rfl (px_sh1 hw sh_61) (px_rf hw rf_61_13) (by decide) ?_
  refine px_iload dX10_touchOf_87 rfl ?_
  refine px_iald dX10_touchOf_89 (px_sh2 hw sh_66) (by decide) j1 hj1 hl1 ?_
  refine px_if_eq (tgt := 104) dX10_touchOf_90 (by decide) (fun h1 => ?_) (fun h1 => ?_)
  ·
    exact (k1 h1)
  ·
    exact (k2 h1)
theorem bX10_touchOf_93 {E : px_E} {d : Nat} {w : pw_W} {Q : Option Value → pw_W → Prop} {t : ct_T} (hw : w.1 = cs t) {x4 x5 : Int32}  (j1 : Nat) (hj1 : x5 = nI j1) (hl1 : j1 < 320)
    (k1 : ¬ (pw_I w 66 j1) = 1 → px_W E mX10_touchOf (d + 3) 0 0 149 [.ref 61, .null, .null, .null, .int x4, .int x5] [] w Q)
    (k2 : (pw_I w 66 j1) = 1 → px_W E mX10_touchOf (d + 3) 0 0 104 [.ref 61, .null, .null, .null, .int x4, .int x5] [] w Q) :
    px_W E mX10_touchOf (d + 3) 0 0 93 [.ref 61, .null, .null, .null, .int x4, .int x5] [] w Q := by
  refine px_aload_n dX10_touchOf_93 rfl rfl ?_
  refine px_getR (v := 66) dX10_touchOf_94 fr_10_27 rfl (px_sh1 hw sh_61) (px_rf hw rf_61_13) (by decide) ?_
  refine px_iload dX10_touchOf_97 rfl ?_
  refine px_iald dX10_touchOf_99 (px_sh2 hw sh_66) (by decide) j1 hj1 hl1 ?_
  refine px_iconst dX10_touchOf_100 ic_1 ?_
  refine px_icmp_ne (tgt := 149) dX10_touchOf_101 (by decide) (fun h1 => ?_) (fun h1 => ?_)
  ·
    exact (k1 h1)
  ·
    exact (k2 h1)
theorem bX10_touchOf_104 {E : px_E} {d : Nat} {w : pw_W} {Q : Option Value → pw_W → Prop} {t : ct_T} (hw : w.1 = cs t) {x4 x5 : Int32}  (j1 : Nat) (hj1 : x5 = nI j1) (hl1 : j1 < 320)
    (k1 : ¬ (pw_I w 66 j1) = 0 → px_W E mX10_touchOf (d + 3) 0 0 130 [.ref 61, .null, .null, .null, .int x4, .int x5] [.int x4, .ref 69] w Q)
    (k2 : (pw_I w 66 j1) = 0 → px_W E mX10_touchOf (d + 3) 0 0 120 [.ref 61, .null, .null, .null, .int x4, .int x5] [.int x4, .ref 69] w Q) :
    px_W E mX10_touchOf (d + 3) 0 0 104 [.ref 61, .null, .null, .null, .int x4, .int x5] [] w Q := by
  refine px_aload_n dX10_touchOf_104 rfl rfl ?_
  refine px_getR (v := 69) dX10_touchOf_105 fr_10_36 rfl (px_sh1 hw sh_61) (px_rf hw rf_61_16) (by decide) ?_
  refine px_iload dX10_touchOf_108 rfl ?_
  refine px_aload_n dX10_touchOf_110 rfl rfl ?_
  refine px_getR (v := 66) dX10_touchOf_111 fr_10_27 rfl (px_sh1 hw sh_61) (px_rf hw rf_61_13) (by decide) ?_
  refine px_iload dX10_touchOf_114 rfl ?_
  refine px_iald dX10_touchOf_116 (px_sh2 hw sh_66) (by decide) j1 hj1 hl1 ?_
  refine px_if_ne (tgt := 130) dX10_touchOf_117 (by decide) (fun h1 => ?_) (fun h1 => ?_)
  ·
    exact (k1 h1)
  ·
    exact (k2 h1)
theorem bX10_touchOf_120 {E : px_E} {d : Nat} {w : pw_W} {Q : Option Value → pw_W → Prop} {t : ct_T} (hw : w.1 = cs t) {x4 x5 y1 : Int32}  (j1 : Nat) (hj1 : x5 = nI j1) (hl1 : j1 < 320)
    (k1 : px_W E mX10_touchOf (d + 3) 0 0 142 [.ref 61, .null, .null, .null, .int x4, .int x5] [.int (pw_I w 67 j1), .int y1, .ref 69] w Q) :
    px_W E mX10_touchOf (d + 3) 0 0 120 [.ref 61, .null, .null, .null, .int x4, .int x5] [.int y1, .ref 69] w Q := by
  refine px_aload_n dX10_touchOf_120 rfl rfl ?_
  refine px_getR (v := 67) dX10_touchOf_121 fr_10_30 rfl (px_sh1 hw sh_61) (px_rf hw rf_61_14) (by decide) ?_
  refine px_iload dX10_touchOf_124 rfl ?_
  refine px_iald dX10_touchOf_126 (px_sh2 hw sh_67) (by decide) j1 hj1 hl1 ?_
  refine px_goto (tgt := 142) dX10_touchOf_127 (by decide) ?_
  exact k1
theorem bX10_touchOf_130 {E : px_E} {d : Nat} {w : pw_W} {Q : Option Value → pw_W → Prop} {t : ct_T} (hw : w.1 = cs t) {x4 x5 y1 : Int32}  (j1 : Nat) (hj1 : x5 = nI j1) (hl1 : j1 < 320) (j2 : Nat) (hj2 : (pw_I w 67 j1) = nI j2) (hl2 : j2 < 5)
    (k1 : px_W E mX10_touchOf (d + 3) 0 0 142 [.ref 61, .null, .null, .null, .int x4, .int x5] [.int (pw_I w 70 j2), .int y1, .ref 69] w Q) :
    px_W E mX10_touchOf (d + 3) 0 0 130 [.ref 61, .null, .null, .null, .int x4, .int x5] [.int y1, .ref 69] w Q := by
  refine px_aload_n dX10_touchOf_130 rfl rfl ?_
  refine px_getR (v := 70) dX10_touchOf_131 fr_10_39 rfl (px_sh1 hw sh_61) (px_rf hw rf_61_26) (by decide) ?_
  refine px_aload_n dX10_touchOf_134 rfl rfl ?_
  refine px_getR (v := 67) dX10_touchOf_135 fr_10_30 rfl (px_sh1 hw sh_61) (px_rf hw rf_61_14) (by decide) ?_
  refine px_iload dX10_touchOf_138 rfl ?_
  refine px_iald dX10_touchOf_140 (px_sh2 hw sh_67) (by decide) j1 hj1 hl1 ?_
  refine px_iald dX10_touchOf_141 (px_sh2 hw sh_70) (by decide) j2 hj2 hl2 ?_
  exact k1
theorem bX10_touchOf_142 {E : px_E} {d : Nat} {w : pw_W} {Q : Option Value → pw_W → Prop} {t : ct_T} (hw : w.1 = cs t) {x4 x5 y1 y2 : Int32}  (j1 : Nat) (hj1 : y1 = nI j1) (hl1 : j1 < 64)
    (k1 : px_W E mX10_touchOf (d + 3) 0 0 230 [.ref 61, .null, .null, .null, .int (x4 + 1), .int x5] [] (pw_sI w 69 j1 y2) Q) :
    px_W E mX10_touchOf (d + 3) 0 0 142 [.ref 61, .null, .null, .null, .int x4, .int x5] [.int y2, .int y1, .ref 69] w Q := by
  refine px_iast dX10_touchOf_142 (px_sh2 hw sh_69) (by decide) j1 hj1 hl1 (by omega) ?_
  refine px_iinc (ls' := [.ref 61, .null, .null, .null, .int (x4 + 1), .int x5]) dX10_touchOf_143 ⟨by decide, rfl⟩ rfl rfl rfl ?_
  refine px_goto (tgt := 230) dX10_touchOf_146 (by decide) ?_
  exact k1
theorem bX10_touchOf_149 {E : px_E} {d : Nat} {w : pw_W} {Q : Option Value → pw_W → Prop} {t : ct_T} (hw : w.1 = cs t) {x4 x5 : Int32}  (j1 : Nat) (hj1 : x5 = nI j1) (hl1 : j1 < 320)
    (k1 : ¬ (pw_I w 66 j1) = 2 → px_W E mX10_touchOf (d + 3) 0 0 192 [.ref 61, .null, .null, .null, .int x4, .int x5] [] w Q)
    (k2 : (pw_I w 66 j1) = 2 → px_W E mX10_touchOf (d + 3) 0 0 160 [.ref 61, .null, .null, .null, .int x4, .int x5] [] w Q) :
    px_W E mX10_touchOf (d + 3) 0 0 149 [.ref 61, .null, .null, .null, .int x4, .int x5] [] w Q := by
  refine px_aload_n dX10_touchOf_149 rfl rfl ?_
  refine px_getR (v := 66) dX10_touchOf_150 fr_10_27 rfl (px_sh1 hw sh_61) (px_rf hw rf_61_13) (by decide) ?_
  refine px_iload dX10_touchOf_153 rfl ?_
  refine px_iald dX10_touchOf_155 (px_sh2 hw sh_66) (by decide) j1 hj1 hl1 ?_
  refine px_iconst dX10_touchOf_156 ic_2 ?_
  refine px_icmp_ne (tgt := 192) dX10_touchOf_157 (by decide) (fun h1 => ?_) (fun h1 => ?_)
  ·
    exact (k1 h1)
  ·
    exact (k2 h1)
theorem bX10_touchOf_160 {E : px_E} {d : Nat} {w : pw_W} {Q : Option Value → pw_W → Prop} {t : ct_T} (hw : w.1 = cs t) {x4 x5 : Int32}  (j1 : Nat) (hj1 : (x4 - 1) = nI j1) (hl1 : j1 < 64)
    (k1 : ¬ (pw_I w 69 j1) = 0 → px_W E mX10_touchOf (d + 3) 0 0 185 [.ref 61, .null, .null, .null, .int x4, .int x5] [.int 0, .int (x4 - 1), .ref 69] w Q)
    (k2 : (pw_I w 69 j1) = 0 → px_W E mX10_touchOf (d + 3) 0 0 185 [.ref 61, .null, .null, .null, .int x4, .int x5] [.int 1, .int (x4 - 1), .ref 69] w Q) :
    px_W E mX10_touchOf (d + 3) 0 0 160 [.ref 61, .null, .null, .null, .int x4, .int x5] [] w Q := by
  refine px_aload_n dX10_touchOf_160 rfl rfl ?_
  refine px_getR (v := 69) dX10_touchOf_161 fr_10_36 rfl (px_sh1 hw sh_61) (px_rf hw rf_61_16) (by decide) ?_
  refine px_iload dX10_touchOf_164 rfl ?_
  refine px_iconst dX10_touchOf_166 ic_1 ?_
  refine px_isub dX10_touchOf_167 ?_
  refine px_aload_n dX10_touchOf_168 rfl rfl ?_
  refine px_getR (v := 69) dX10_touchOf_169 fr_10_36 rfl (px_sh1 hw sh_61) (px_rf hw rf_61_16) (by decide) ?_
  refine px_iload dX10_touchOf_172 rfl ?_
  refine px_iconst dX10_touchOf_174 ic_1 ?_
  refine px_isub dX10_touchOf_175 ?_
  refine px_iald dX10_touchOf_176 (px_sh2 hw sh_69) (by decide) j1 hj1 hl1 ?_
  refine px_if_ne (tgt := 184) dX10_touchOf_177 (by decide) (fun h1 => ?_) (fun h1 => ?_)
  ·
    refine px_iconst dX10_touchOf_184 ic_0 ?_
    exact (k1 h1)
  ·
    refine px_iconst dX10_touchOf_180 ic_1 ?_
    refine px_goto (tgt := 185) dX10_touchOf_181 (by decide) ?_
    exact (k2 h1)
theorem bX10_touchOf_185 {E : px_E} {d : Nat} {w : pw_W} {Q : Option Value → pw_W → Prop} {t : ct_T} (hw : w.1 = cs t) {x4 x5 y1 y2 : Int32}  (j1 : Nat) (hj1 : y1 = nI j1) (hl1 : j1 < 64)
    (k1 : px_W E mX10_touchOf (d + 3) 0 0 230 [.ref 61, .null, .null, .null, .int x4, .int x5] [] (pw_sI w 69 j1 (hX10_truth y2)) Q) :
    px_W E mX10_touchOf (d + 3) 0 0 185 [.ref 61, .null, .null, .null, .int x4, .int x5] [.int y2, .int y1, .ref 69] w Q := by
  refine px_callS (As := [.int y2]) (st := [.int y1, .ref 69]) (rc := 0) (rs := 0) (mc := 0) (ms := 0) dX10_touchOf_185 lk_10_332 rfl rfl (Nat.le_of_ble_eq_true rfl) (sX10_truth ?_)
  show px_W E mX10_touchOf (d + 3) 0 0 188 [.ref 61, .null, .null, .null, .int x4, .int x5] [.int (hX10_truth y2), .int y1, .ref 69] w Q
  refine px_iast dX10_touchOf_188 (px_sh2 hw sh_69) (by decide) j1 hj1 hl1 (by omega) ?_
  refine px_goto (tgt := 230) dX10_touchOf_189 (by decide) ?_
  exact k1
theorem bX10_touchOf_192 {E : px_E} {d : Nat} {w : pw_W} {Q : Option Value → pw_W → Prop} {t : ct_T} (hw : w.1 = cs t) {x4 x5 : Int32}  (j1 : Nat) (hj1 : x5 = nI j1) (hl1 : j1 < 320) (j2 : Nat) (hj2 : ((x4 + (-1)) - 1) = nI j2) (hl2 : j2 < 64) (j3 : Nat) (hj3 : (x4 + (-1)) = nI j3) (hl3 : j3 < 64)
    (k1 : px_W E mX10_touchOf (d + 3) 0 0 230 [.ref 61, .null, .null, .null, .int (x4 + (-1)), .int x5] [] (pw_sI w 69 j2 (hX10_done (pw_I w 67 j1) (pw_I w 69 j2) (pw_I w 69 j3))) Q) :
    px_W E mX10_touchOf (d + 3) 0 0 192 [.ref 61, .null, .null, .null, .int x4, .int x5] [] w Q := by
  refine px_iinc (ls' := [.ref 61, .null, .null, .null, .int (x4 + (-1)), .int x5]) dX10_touchOf_192 ⟨by decide, rfl⟩ rfl rfl rfl ?_
  refine px_aload_n dX10_touchOf_195 rfl rfl ?_
  refine px_getR (v := 69) dX10_touchOf_196 fr_10_36 rfl (px_sh1 hw sh_61) (px_rf hw rf_61_16) (by decide) ?_
  refine px_iload dX10_touchOf_199 rfl ?_
  refine px_iconst dX10_touchOf_201 ic_1 ?_
  refine px_isub dX10_touchOf_202 ?_
  refine px_aload_n dX10_touchOf_203 rfl rfl ?_
  refine px_getR (v := 67) dX10_touchOf_204 fr_10_30 rfl (px_sh1 hw sh_61) (px_rf hw rf_61_14) (by decide) ?_
  refine px_iload dX10_touchOf_207 rfl ?_
  refine px_iald dX10_touchOf_209 (px_sh2 hw sh_67) (by decide) j1 hj1 hl1 ?_
  refine px_aload_n dX10_touchOf_210 rfl rfl ?_
  refine px_getR (v := 69) dX10_touchOf_211 fr_10_36 rfl (px_sh1 hw sh_61) (px_rf hw rf_61_16) (by decide) ?_
  refine px_iload dX10_touchOf_214 rfl ?_
  refine px_iconst dX10_touchOf_216 ic_1 ?_
  refine px_isub dX10_touchOf_217 ?_
  refine px_iald dX10_touchOf_218 (px_sh2 hw sh_69) (by decide) j2 hj2 hl2 ?_
  refine px_aload_n dX10_touchOf_219 rfl rfl ?_
  refine px_getR (v := 69) dX10_touchOf_220 fr_10_36 rfl (px_sh1 hw sh_61) (px_rf hw rf_61_16) (by decide) ?_
  refine px_iload dX10_touchOf_223 rfl ?_
  refine px_iald dX10_touchOf_225 (px_sh2 hw sh_69) (by decide) j3 hj3 hl3 ?_
  refine px_callS (As := [.int (pw_I w 67 j1), .int (pw_I w 69 j2), .int (pw_I w 69 j3)]) (st := [.int ((x4 + (-1)) - 1), .ref 69]) (rc := 0) (rs := 0) (mc := 0) (ms := 0) dX10_touchOf_226 lk_10_346 rfl rfl (Nat.le_of_ble_eq_true rfl) (sX10_done ?_)
  show px_W E mX10_touchOf (d + 3) 0 0 229 [.ref 61, .null, .null, .null, .int (x4 + (-1)), .int x5] [.int (hX10_done (pw_I w 67 j1) (pw_I w 69 j2) (pw_I w 69 j3)), .int ((x4 + (-1)) - 1), .ref 69] w Q
  refine px_iast dX10_touchOf_229 (px_sh2 hw sh_69) (by decide) j2 hj2 hl2 (by omega) ?_
  exact k1
theorem bX10_touchOf_230 {E : px_E} {d : Nat} {w : pw_W} {Q : Option Value → pw_W → Prop} {t : ct_T} (hw : w.1 = cs t) {x4 x5 : Int32}  
    (k1 : px_W E mX10_touchOf (d + 3) 0 0 74 [.ref 61, .null, .null, .null, .int x4, .int (x5 + 1)] [] w Q) :
    px_W E mX10_touchOf (d + 3) 0 0 230 [.ref 61, .null, .null, .null, .int x4, .int x5] [] w Q := by
  refine px_iinc (ls' := [.ref 61, .null, .null, .null, .int x4, .int (x5 + 1)]) dX10_touchOf_230 ⟨by decide, rfl⟩ rfl rfl rfl ?_
  refine px_goto (tgt := 74) dX10_touchOf_233 (by decide) ?_
  exact k1
theorem bX10_touchOf_236 {E : px_E} {d : Nat} {w : pw_W} {Q : Option Value → pw_W → Prop} {t : ct_T} (hw : w.1 = cs t)  
    (k1 : Q (some (.int (hX10_within (pw_I w 69 0) 0 20))) w) :
    px_W E mX10_touchOf (d + 3) 0 0 236 [.ref 61, .null, .null, .null, .null, .null] [] w Q := by
  refine px_aload_n dX10_touchOf_236 rfl rfl ?_
  refine px_getR (v := 69) dX10_touchOf_237 fr_10_36 rfl (px_sh1 hw sh_61) (px_rf hw rf_61_16) (by decide) ?_
  refine px_iconst dX10_touchOf_240 ic_0 ?_
  refine px_iald dX10_touchOf_241 (px_sh2 hw sh_69) (by decide) 0 rfl (by decide) ?_
  refine px_iconst dX10_touchOf_242 ic_0 ?_
  refine px_bipush dX10_touchOf_243 bp_20 ?_
  refine px_forget (ls' := [.null, .null, .null, .null, .null, .null]) ?_ ⟨Or.inl rfl, Or.inl rfl, Or.inl rfl, Or.inl rfl, Or.inl rfl, Or.inl rfl, trivial⟩
  refine px_callS (As := [.int (pw_I w 69 0), .int 0, .int 20]) (st := []) (rc := 0) (rs := 0) (mc := 0) (ms := 0) dX10_touchOf_245 lk_10_339 rfl rfl (Nat.le_of_ble_eq_true rfl) (sX10_within ?_)
  show px_W E mX10_touchOf (d + 3) 0 0 248 [.null, .null, .null, .null, .null, .null] [.int (hX10_within (pw_I w 69 0) 0 20)] w Q
  exact px_ireturn dX10_touchOf_248 rfl rfl k1
theorem dX10_readPerson_0 : decode mX10_readPerson.2.1 0 = .ok (.aload_n 0, 1) := by decide +kernel
theorem dX10_readPerson_1 : decode mX10_readPerson.2.1 1 = .ok (.iconst 0, 1) := by decide +kernel
theorem dX10_readPerson_2 : decode mX10_readPerson.2.1 2 = .ok (.aload_n 0, 1) := by decide +kernel
theorem dX10_readPerson_3 : decode mX10_readPerson.2.1 3 = .ok (.getfield 272, 3) := by decide +kernel
theorem dX10_readPerson_6 : decode mX10_readPerson.2.1 6 = .ok (.invokevirtual 349, 3) := by decide +kernel
theorem dX10_readPerson_9 : decode mX10_readPerson.2.1 9 = .ok (.aload_n 0, 1) := by decide +kernel
theorem dX10_readPerson_10 : decode mX10_readPerson.2.1 10 = .ok (.getfield 42, 3) := by decide +kernel
theorem dX10_readPerson_13 : decode mX10_readPerson.2.1 13 = .ok (.aload_n 0, 1) := by decide +kernel
theorem dX10_readPerson_14 : decode mX10_readPerson.2.1 14 = .ok (.getfield 272, 3) := by decide +kernel
theorem dX10_readPerson_17 : decode mX10_readPerson.2.1 17 = .ok (.aload_n 0, 1) := by decide +kernel
theorem dX10_readPerson_18 : decode mX10_readPerson.2.1 18 = .ok (.ldc2_w 202, 3) := by decide +kernel
theorem dX10_readPerson_21 : decode mX10_readPerson.2.1 21 = .ok (.iconst 0, 1) := by decide +kernel
theorem dX10_readPerson_22 : decode mX10_readPerson.2.1 22 = .ok (.bipush 30, 2) := by decide +kernel
theorem dX10_readPerson_24 : decode mX10_readPerson.2.1 24 = .ok (.invokevirtual 262, 3) := by decide +kernel
theorem dX10_readPerson_27 : decode mX10_readPerson.2.1 27 = .ok (.iastore, 1) := by decide +kernel
theorem dX10_readPerson_28 : decode mX10_readPerson.2.1 28 = .ok (.aload_n 0, 1) := by decide +kernel
theorem dX10_readPerson_29 : decode mX10_readPerson.2.1 29 = .ok (.getfield 45, 3) := by decide +kernel
theorem dX10_readPerson_32 : decode mX10_readPerson.2.1 32 = .ok (.aload_n 0, 1) := by decide +kernel
theorem dX10_readPerson_33 : decode mX10_readPerson.2.1 33 = .ok (.getfield 272, 3) := by decide +kernel
theorem dX10_readPerson_36 : decode mX10_readPerson.2.1 36 = .ok (.aload_n 0, 1) := by decide +kernel
theorem dX10_readPerson_37 : decode mX10_readPerson.2.1 37 = .ok (.ldc2_w 204, 3) := by decide +kernel
theorem dX10_readPerson_40 : decode mX10_readPerson.2.1 40 = .ok (.bipush 9, 2) := by decide +kernel
theorem dX10_readPerson_42 : decode mX10_readPerson.2.1 42 = .ok (.invokevirtual 352, 3) := by decide +kernel
theorem dX10_readPerson_45 : decode mX10_readPerson.2.1 45 = .ok (.iastore, 1) := by decide +kernel
theorem dX10_readPerson_46 : decode mX10_readPerson.2.1 46 = .ok (.aload_n 0, 1) := by decide +kernel
theorem dX10_readPerson_47 : decode mX10_readPerson.2.1 47 = .ok (.getfield 48, 3) := by decide +kernel
theorem dX10_readPerson_50 : decode mX10_readPerson.2.1 50 = .ok (.aload_n 0, 1) := by decide +kernel
theorem dX10_readPerson_51 : decode mX10_readPerson.2.1 51 = .ok (.getfield 272, 3) := by decide +kernel
theorem dX10_readPerson_54 : decode mX10_readPerson.2.1 54 = .ok (.aload_n 0, 1) := by decide +kernel
theorem dX10_readPerson_55 : decode mX10_readPerson.2.1 55 = .ok (.ldc2_w 206, 3) := by decide +kernel
theorem dX10_readPerson_58 : decode mX10_readPerson.2.1 58 = .ok (.bipush 99, 2) := by decide +kernel
theorem dX10_readPerson_60 : decode mX10_readPerson.2.1 60 = .ok (.invokevirtual 352, 3) := by decide +kernel
theorem dX10_readPerson_63 : decode mX10_readPerson.2.1 63 = .ok (.iastore, 1) := by decide +kernel
theorem dX10_readPerson_64 : decode mX10_readPerson.2.1 64 = .ok (.aload_n 0, 1) := by decide +kernel
theorem dX10_readPerson_65 : decode mX10_readPerson.2.1 65 = .ok (.getfield 197, 3) := by decide +kernel
theorem dX10_readPerson_68 : decode mX10_readPerson.2.1 68 = .ok (.ifCond .ne 13, 3) := by decide +kernel
theorem dX10_readPerson_71 : decode mX10_readPerson.2.1 71 = .ok (.aload_n 0, 1) := by decide +kernel
theorem dX10_readPerson_72 : decode mX10_readPerson.2.1 72 = .ok (.dup, 1) := by decide +kernel
theorem dX10_readPerson_73 : decode mX10_readPerson.2.1 73 = .ok (.getfield 272, 3) := by decide +kernel
theorem dX10_readPerson_76 : decode mX10_readPerson.2.1 76 = .ok (.iconst 1, 1) := by decide +kernel
theorem dX10_readPerson_77 : decode mX10_readPerson.2.1 77 = .ok (.iadd, 1) := by decide +kernel
theorem dX10_readPerson_78 : decode mX10_readPerson.2.1 78 = .ok (.putfield 272, 3) := by decide +kernel
theorem dX10_readPerson_81 : decode mX10_readPerson.2.1 81 = .ok (.return_, 1) := by decide +kernel
theorem bX10_readPerson_0 {E : px_E} {d : Nat} {w : pw_W} {Q : Option Value → pw_W → Prop} {t : ct_T} (hw : w.1 = cs t)  
    (k1 : px_Call E d 0 0 mX10_newName [.ref 61, .int 0, .int (pw_I w 61 45)] w (fun v w' => px_W E mX10_readPerson (d + 1) 0 0 9 [.ref 61] (v.toList ++ []) w' Q)) :
    px_W E mX10_readPerson (d + 1) 0 0 0 [.ref 61] [] w Q := by
  refine px_aload_n dX10_readPerson_0 rfl rfl ?_
  refine px_iconst dX10_readPerson_1 ic_0 ?_
  refine px_aload_n dX10_readPerson_2 rfl rfl ?_
  refine px_getI dX10_readPerson_3 fr_10_272 rfl (px_sh1 hw sh_61) ?_
  exact px_callV (As := [.int 0, .int (pw_I w 61 45)]) (st := []) (rc := 0) (rs := 0) (mc := 0) (ms := 0) dX10_readPerson_6 lk_10_349 (px_sh1 hw sh_61) rfl rfl (Nat.le_of_ble_eq_true rfl) k1
theorem eX10_readPerson {E : px_E} {d : Nat} {w : pw_W} {Q : Option Value → pw_W → Prop} {t : ct_T} (hw : w.1 = cs t)  
    (k1 : px_Call E d 0 0 mX10_newName [.ref 61, .int 0, .int (pw_I w 61 45)] w (fun v w' => px_W E mX10_readPerson (d + 1) 0 0 9 [.ref 61] (v.toList ++ []) w' Q)) :
    px_Call E (d + 1) 0 0 mX10_readPerson [.ref 61] w Q :=
  px_enter (k := 0) (by decide) (Nat.le_of_ble_eq_true rfl) rfl (px_forget (bX10_readPerson_0 hw k1) ⟨Or.inr rfl, trivial⟩)
theorem bX10_readPerson_9 {E : px_E} {d : Nat} {w : pw_W} {Q : Option Value → pw_W → Prop} {t : ct_T} (hw : w.1 = cs t)  
    (k1 : px_Call E d 0 0 mX10_told [.ref 61, .long 1718186605, .int 0, .int 30] w (fun v w' => px_W E mX10_readPerson (d + 1) 0 0 27 [.ref 61] (v.toList ++ [.int (pw_I w 61 45), .ref 71]) w' Q)) :
    px_W E mX10_readPerson (d + 1) 0 0 9 [.ref 61] [] w Q := by
  refine px_aload_n dX10_readPerson_9 rfl rfl ?_
  refine px_getR (v := 71) dX10_readPerson_10 fr_10_42 rfl (px_sh1 hw sh_61) (px_rf hw rf_61_27) (by decide) ?_
  refine px_aload_n dX10_readPerson_13 rfl rfl ?_
  refine px_getI dX10_readPerson_14 fr_10_272 rfl (px_sh1 hw sh_61) ?_
  refine px_aload_n dX10_readPerson_17 rfl rfl ?_
  refine px_ldc2 dX10_readPerson_18 (px_in7 50 rfl rfl) ?_
  refine px_iconst dX10_readPerson_21 ic_0 ?_
  refine px_bipush dX10_readPerson_22 bp_30 ?_
  exact px_callV (As := [.long 1718186605, .int 0, .int 30]) (st := [.int (pw_I w 61 45), .ref 71]) (rc := 0) (rs := 0) (mc := 0) (ms := 0) dX10_readPerson_24 lk_10_262 (px_sh1 hw sh_61) rfl rfl (Nat.le_of_ble_eq_true rfl) k1
theorem bX10_readPerson_27 {E : px_E} {d : Nat} {w : pw_W} {Q : Option Value → pw_W → Prop} {t : ct_T} (hw : w.1 = cs t) {y1 y2 : Int32}  (j1 : Nat) (hj1 : y1 = nI j1) (hl1 : j1 < 6)
    (k1 : px_Call E d 0 0 mX10_mayTell [.ref 61, .long 119182682386035, .int 9] (pw_sI w 71 j1 y2) (fun v w' => px_W E mX10_readPerson (d + 1) 0 0 45 [.ref 61] (v.toList ++ [.int (pw_I w 61 45), .ref 72]) w' Q)) :
    px_W E mX10_readPerson (d + 1) 0 0 27 [.ref 61] [.int y2, .int y1, .ref 71] w Q := by
  refine px_iast dX10_readPerson_27 (px_sh2 hw sh_71) (by decide) j1 hj1 hl1 (by omega) ?_
  refine px_aload_n dX10_readPerson_28 rfl rfl ?_
  refine px_getR (v := 72) dX10_readPerson_29 fr_10_45 rfl (px_sh1 (hI hw) sh_61) (px_rf (hI hw) rf_61_28) (by decide) ?_
  refine px_aload_n dX10_readPerson_32 rfl rfl ?_
  refine px_getIv (v := (pw_I w 61 45)) dX10_readPerson_33 fr_10_272 rfl (px_sh1 (hI hw) sh_61) rfl ?_
  refine px_aload_n dX10_readPerson_36 rfl rfl ?_
  refine px_ldc2 dX10_readPerson_37 (px_in7 51 rfl rfl) ?_
  refine px_bipush dX10_readPerson_40 bp_9 ?_
  exact px_callV (As := [.long 119182682386035, .int 9]) (st := [.int (pw_I w 61 45), .ref 72]) (rc := 0) (rs := 0) (mc := 0) (ms := 0) dX10_readPerson_42 lk_10_352 (px_sh1 (hI hw) sh_61) rfl rfl (Nat.le_of_ble_eq_true rfl) k1
theorem bX10_readPerson_45 {E : px_E} {d : Nat} {w : pw_W} {Q : Option Value → pw_W → Prop} {t : ct_T} (hw : w.1 = cs t) {y1 y2 : Int32}  (j1 : Nat) (hj1 : y1 = nI j1) (hl1 : j1 < 6)
    (k1 : px_Call E d 0 0 mX10_mayTell [.ref 61, .long 465826574451, .int 99] (pw_sI w 72 j1 y2) (fun v w' => px_W E mX10_readPerson (d + 1) 0 0 63 [.ref 61] (v.toList ++ [.int (pw_I w 61 45), .ref 73]) w' Q)) :
    px_W E mX10_readPerson (d + 1) 0 0 45 [.ref 61] [.int y2, .int y1, .ref 72] w Q := by
  refine px_iast dX10_readPerson_45 (px_sh2 hw sh_72) (by decide) j1 hj1 hl1 (by omega) ?_
  refine px_aload_n dX10_readPerson_46 rfl rfl ?_
  refine px_getR (v := 73) dX10_readPerson_47 fr_10_48 rfl (px_sh1 (hI hw) sh_61) (px_rf (hI hw) rf_61_29) (by decide) ?_
  refine px_aload_n dX10_readPerson_50 rfl rfl ?_
  refine px_getIv (v := (pw_I w 61 45)) dX10_readPerson_51 fr_10_272 rfl (px_sh1 (hI hw) sh_61) rfl ?_
  refine px_aload_n dX10_readPerson_54 rfl rfl ?_
  refine px_ldc2 dX10_readPerson_55 (px_in7 52 rfl rfl) ?_
  refine px_bipush dX10_readPerson_58 bp_99 ?_
  exact px_callV (As := [.long 465826574451, .int 99]) (st := [.int (pw_I w 61 45), .ref 73]) (rc := 0) (rs := 0) (mc := 0) (ms := 0) dX10_readPerson_60 lk_10_352 (px_sh1 (hI hw) sh_61) rfl rfl (Nat.le_of_ble_eq_true rfl) k1
theorem bX10_readPerson_63 {E : px_E} {d : Nat} {w : pw_W} {Q : Option Value → pw_W → Prop} {t : ct_T} (hw : w.1 = cs t) {y1 y2 : Int32}  (j1 : Nat) (hj1 : y1 = nI j1) (hl1 : j1 < 6)
    (k1 : ¬ (pw_I w 61 2) = 0 → px_W E mX10_readPerson (d + 1) 0 0 81 [.null] [] (pw_sI w 73 j1 y2) Q)
    (k2 : (pw_I w 61 2) = 0 → px_W E mX10_readPerson (d + 1) 0 0 81 [.null] [] (pw_sI (pw_sI w 73 j1 y2) 61 45 ((pw_I w 61 45) + 1)) Q) :
    px_W E mX10_readPerson (d + 1) 0 0 63 [.ref 61] [.int y2, .int y1, .ref 73] w Q := by
  refine px_iast dX10_readPerson_63 (px_sh2 hw sh_73) (by decide) j1 hj1 hl1 (by omega) ?_
  refine px_aload_n dX10_readPerson_64 rfl rfl ?_
  refine px_getIv (v := (pw_I w 61 2)) dX10_readPerson_65 fr_10_197 rfl (px_sh1 (hI hw) sh_61) rfl ?_
  refine px_if_ne (tgt := 81) dX10_readPerson_68 (by decide) (fun h1 => ?_) (fun h1 => ?_)
  ·
    exact px_forget (k1 h1) ⟨Or.inl rfl, trivial⟩
  ·
    refine px_aload_n dX10_readPerson_71 rfl rfl ?_
    refine px_dup dX10_readPerson_72 rfl ?_
    refine px_getIv (v := (pw_I w 61 45)) dX10_readPerson_73 fr_10_272 rfl (px_sh1 (hI hw) sh_61) rfl ?_
    refine px_iconst dX10_readPerson_76 ic_1 ?_
    refine px_iadd dX10_readPerson_77 ?_
    refine px_putI dX10_readPerson_78 fl_10_272 (Or.inl rfl) rfl (px_sh1 (hI hw) sh_61) rfl rfl (by omega) ?_
    exact px_forget (k2 h1) ⟨Or.inl rfl, trivial⟩
theorem bX10_readPerson_81 {E : px_E} {d : Nat} {w : pw_W} {Q : Option Value → pw_W → Prop} {t : ct_T} (hw : w.1 = cs t)  
    (k1 : Q none w) :
    px_W E mX10_readPerson (d + 1) 0 0 81 [.null] [] w Q := by
  exact px_return dX10_readPerson_81 rfl k1
theorem dX10_readMeeting_0 : decode mX10_readMeeting.2.1 0 = .ok (.aload_n 0, 1) := by decide +kernel
theorem dX10_readMeeting_1 : decode mX10_readMeeting.2.1 1 = .ok (.invokevirtual 251, 3) := by decide +kernel
theorem dX10_readMeeting_4 : decode mX10_readMeeting.2.1 4 = .ok (.aload_n 0, 1) := by decide +kernel
theorem dX10_readMeeting_5 : decode mX10_readMeeting.2.1 5 = .ok (.getfield 51, 3) := by decide +kernel
theorem dX10_readMeeting_8 : decode mX10_readMeeting.2.1 8 = .ok (.aload_n 0, 1) := by decide +kernel
theorem dX10_readMeeting_9 : decode mX10_readMeeting.2.1 9 = .ok (.getfield 356, 3) := by decide +kernel
theorem dX10_readMeeting_12 : decode mX10_readMeeting.2.1 12 = .ok (.aload_n 0, 1) := by decide +kernel
theorem dX10_readMeeting_13 : decode mX10_readMeeting.2.1 13 = .ok (.invokevirtual 359, 3) := by decide +kernel
theorem dX10_readMeeting_16 : decode mX10_readMeeting.2.1 16 = .ok (.iastore, 1) := by decide +kernel
theorem dX10_readMeeting_17 : decode mX10_readMeeting.2.1 17 = .ok (.aload_n 0, 1) := by decide +kernel
theorem dX10_readMeeting_18 : decode mX10_readMeeting.2.1 18 = .ok (.getfield 197, 3) := by decide +kernel
theorem dX10_readMeeting_21 : decode mX10_readMeeting.2.1 21 = .ok (.ifCond .ne 7, 3) := by decide +kernel
theorem dX10_readMeeting_24 : decode mX10_readMeeting.2.1 24 = .ok (.aload_n 0, 1) := by decide +kernel
theorem dX10_readMeeting_25 : decode mX10_readMeeting.2.1 25 = .ok (.invokevirtual 251, 3) := by decide +kernel
theorem dX10_readMeeting_28 : decode mX10_readMeeting.2.1 28 = .ok (.aload_n 0, 1) := by decide +kernel
theorem dX10_readMeeting_29 : decode mX10_readMeeting.2.1 29 = .ok (.getfield 54, 3) := by decide +kernel
theorem dX10_readMeeting_32 : decode mX10_readMeeting.2.1 32 = .ok (.aload_n 0, 1) := by decide +kernel
theorem dX10_readMeeting_33 : decode mX10_readMeeting.2.1 33 = .ok (.getfield 356, 3) := by decide +kernel
theorem dX10_readMeeting_36 : decode mX10_readMeeting.2.1 36 = .ok (.aload_n 0, 1) := by decide +kernel
theorem dX10_readMeeting_37 : decode mX10_readMeeting.2.1 37 = .ok (.invokevirtual 359, 3) := by decide +kernel
theorem dX10_readMeeting_40 : decode mX10_readMeeting.2.1 40 = .ok (.iastore, 1) := by decide +kernel
theorem dX10_readMeeting_41 : decode mX10_readMeeting.2.1 41 = .ok (.aload_n 0, 1) := by decide +kernel
theorem dX10_readMeeting_42 : decode mX10_readMeeting.2.1 42 = .ok (.getfield 197, 3) := by decide +kernel
theorem dX10_readMeeting_45 : decode mX10_readMeeting.2.1 45 = .ok (.ifCond .ne 29, 3) := by decide +kernel
theorem dX10_readMeeting_48 : decode mX10_readMeeting.2.1 48 = .ok (.aload_n 0, 1) := by decide +kernel
theorem dX10_readMeeting_49 : decode mX10_readMeeting.2.1 49 = .ok (.getfield 51, 3) := by decide +kernel
theorem dX10_readMeeting_52 : decode mX10_readMeeting.2.1 52 = .ok (.aload_n 0, 1) := by decide +kernel
theorem dX10_readMeeting_53 : decode mX10_readMeeting.2.1 53 = .ok (.getfield 356, 3) := by decide +kernel
theorem dX10_readMeeting_56 : decode mX10_readMeeting.2.1 56 = .ok (.iaload, 1) := by decide +kernel
theorem dX10_readMeeting_57 : decode mX10_readMeeting.2.1 57 = .ok (.aload_n 0, 1) := by decide +kernel
theorem dX10_readMeeting_58 : decode mX10_readMeeting.2.1 58 = .ok (.getfield 54, 3) := by decide +kernel
theorem dX10_readMeeting_61 : decode mX10_readMeeting.2.1 61 = .ok (.aload_n 0, 1) := by decide +kernel
theorem dX10_readMeeting_62 : decode mX10_readMeeting.2.1 62 = .ok (.getfield 356, 3) := by decide +kernel
theorem dX10_readMeeting_65 : decode mX10_readMeeting.2.1 65 = .ok (.iaload, 1) := by decide +kernel
theorem dX10_readMeeting_66 : decode mX10_readMeeting.2.1 66 = .ok (.if_icmp .ne 8, 3) := by decide +kernel
theorem dX10_readMeeting_69 : decode mX10_readMeeting.2.1 69 = .ok (.aload_n 0, 1) := by decide +kernel
theorem dX10_readMeeting_70 : decode mX10_readMeeting.2.1 70 = .ok (.iconst 3, 1) := by decide +kernel
theorem dX10_readMeeting_71 : decode mX10_readMeeting.2.1 71 = .ok (.invokevirtual 248, 3) := by decide +kernel
theorem dX10_readMeeting_74 : decode mX10_readMeeting.2.1 74 = .ok (.aload_n 0, 1) := by decide +kernel
theorem dX10_readMeeting_75 : decode mX10_readMeeting.2.1 75 = .ok (.getfield 197, 3) := by decide +kernel
theorem dX10_readMeeting_78 : decode mX10_readMeeting.2.1 78 = .ok (.ifCond .ne 7, 3) := by decide +kernel
theorem dX10_readMeeting_81 : decode mX10_readMeeting.2.1 81 = .ok (.aload_n 0, 1) := by decide +kernel
theorem dX10_readMeeting_82 : decode mX10_readMeeting.2.1 82 = .ok (.invokevirtual 251, 3) := by decide +kernel
theorem dX10_readMeeting_85 : decode mX10_readMeeting.2.1 85 = .ok (.aload_n 0, 1) := by decide +kernel
theorem dX10_readMeeting_86 : decode mX10_readMeeting.2.1 86 = .ok (.getfield 57, 3) := by decide +kernel
theorem dX10_readMeeting_89 : decode mX10_readMeeting.2.1 89 = .ok (.aload_n 0, 1) := by decide +kernel
theorem dX10_readMeeting_90 : decode mX10_readMeeting.2.1 90 = .ok (.getfield 356, 3) := by decide +kernel
theorem dX10_readMeeting_93 : decode mX10_readMeeting.2.1 93 = .ok (.aload_n 0, 1) := by decide +kernel
theorem dX10_readMeeting_94 : decode mX10_readMeeting.2.1 94 = .ok (.ldc2_w 210, 3) := by decide +kernel
theorem dX10_readMeeting_97 : decode mX10_readMeeting.2.1 97 = .ok (.iconst 0, 1) := by decide +kernel
theorem dX10_readMeeting_98 : decode mX10_readMeeting.2.1 98 = .ok (.bipush 6, 2) := by decide +kernel
theorem dX10_readMeeting_100 : decode mX10_readMeeting.2.1 100 = .ok (.invokevirtual 262, 3) := by decide +kernel
theorem dX10_readMeeting_103 : decode mX10_readMeeting.2.1 103 = .ok (.iastore, 1) := by decide +kernel
theorem dX10_readMeeting_104 : decode mX10_readMeeting.2.1 104 = .ok (.aload_n 0, 1) := by decide +kernel
theorem dX10_readMeeting_105 : decode mX10_readMeeting.2.1 105 = .ok (.getfield 197, 3) := by decide +kernel
theorem dX10_readMeeting_108 : decode mX10_readMeeting.2.1 108 = .ok (.ifCond .ne 13, 3) := by decide +kernel
theorem dX10_readMeeting_111 : decode mX10_readMeeting.2.1 111 = .ok (.aload_n 0, 1) := by decide +kernel
theorem dX10_readMeeting_112 : decode mX10_readMeeting.2.1 112 = .ok (.dup, 1) := by decide +kernel
theorem dX10_readMeeting_113 : decode mX10_readMeeting.2.1 113 = .ok (.getfield 356, 3) := by decide +kernel
theorem dX10_readMeeting_116 : decode mX10_readMeeting.2.1 116 = .ok (.iconst 1, 1) := by decide +kernel
theorem dX10_readMeeting_117 : decode mX10_readMeeting.2.1 117 = .ok (.iadd, 1) := by decide +kernel
theorem dX10_readMeeting_118 : decode mX10_readMeeting.2.1 118 = .ok (.putfield 356, 3) := by decide +kernel
theorem dX10_readMeeting_121 : decode mX10_readMeeting.2.1 121 = .ok (.return_, 1) := by decide +kernel
theorem bX10_readMeeting_0 {E : px_E} {d : Nat} {w : pw_W} {Q : Option Value → pw_W → Prop} {t : ct_T} (hw : w.1 = cs t)  
    (k1 : px_Call E d 0 0 mX10_token [.ref 61] w (fun v w' => px_W E mX10_readMeeting (d + 1) 0 0 4 [.ref 61] (v.toList ++ []) w' Q)) :
    px_W E mX10_readMeeting (d + 1) 0 0 0 [.ref 61] [] w Q := by
  refine px_aload_n dX10_readMeeting_0 rfl rfl ?_
  exact px_callV (As := []) (st := []) (rc := 0) (rs := 0) (mc := 0) (ms := 0) dX10_readMeeting_1 lk_10_251 (px_sh1 hw sh_61) rfl rfl (Nat.le_of_ble_eq_true rfl) k1
theorem eX10_readMeeting {E : px_E} {d : Nat} {w : pw_W} {Q : Option Value → pw_W → Prop} {t : ct_T} (hw : w.1 = cs t)  
    (k1 : px_Call E d 0 0 mX10_token [.ref 61] w (fun v w' => px_W E mX10_readMeeting (d + 1) 0 0 4 [.ref 61] (v.toList ++ []) w' Q)) :
    px_Call E (d + 1) 0 0 mX10_readMeeting [.ref 61] w Q :=
  px_enter (k := 0) (by decide) (Nat.le_of_ble_eq_true rfl) rfl (px_forget (bX10_readMeeting_0 hw k1) ⟨Or.inr rfl, trivial⟩)
theorem bX10_readMeeting_4 {E : px_E} {d : Nat} {w : pw_W} {Q : Option Value → pw_W → Prop} {t : ct_T} (hw : w.1 = cs t)  
    (k1 : px_Call E d 0 0 mX10_oldPerson [.ref 61] w (fun v w' => px_W E mX10_readMeeting (d + 1) 0 0 16 [.ref 61] (v.toList ++ [.int (pw_I w 61 46), .ref 74]) w' Q)) :
    px_W E mX10_readMeeting (d + 1) 0 0 4 [.ref 61] [] w Q := by
  refine px_aload_n dX10_readMeeting_4 rfl rfl ?_
  refine px_getR (v := 74) dX10_readMeeting_5 fr_10_51 rfl (px_sh1 hw sh_61) (px_rf hw rf_61_30) (by decide) ?_
  refine px_aload_n dX10_readMeeting_8 rfl rfl ?_
  refine px_getI dX10_readMeeting_9 fr_10_356 rfl (px_sh1 hw sh_61) ?_
  refine px_aload_n dX10_readMeeting_12 rfl rfl ?_
  exact px_callV (As := []) (st := [.int (pw_I w 61 46), .ref 74]) (rc := 0) (rs := 0) (mc := 0) (ms := 0) dX10_readMeeting_13 lk_10_359 (px_sh1 hw sh_61) rfl rfl (Nat.le_of_ble_eq_true rfl) k1
theorem bX10_readMeeting_16 {E : px_E} {d : Nat} {w : pw_W} {Q : Option Value → pw_W → Prop} {t : ct_T} (hw : w.1 = cs t) {y1 y2 : Int32}  (j1 : Nat) (hj1 : y1 = nI j1) (hl1 : j1 < 9)
    (k1 : ¬ (pw_I w 61 2) = 0 → px_W E mX10_readMeeting (d + 1) 0 0 28 [.ref 61] [] (pw_sI w 74 j1 y2) Q)
    (k2 : (pw_I w 61 2) = 0 → px_Call E d 0 0 mX10_token [.ref 61] (pw_sI w 74 j1 y2) (fun v w' => px_W E mX10_readMeeting (d + 1) 0 0 28 [.ref 61] (v.toList ++ []) w' Q)) :
    px_W E mX10_readMeeting (d + 1) 0 0 16 [.ref 61] [.int y2, .int y1, .ref 74] w Q := by
  refine px_iast dX10_readMeeting_16 (px_sh2 hw sh_74) (by decide) j1 hj1 hl1 (by omega) ?_
  refine px_aload_n dX10_readMeeting_17 rfl rfl ?_
  refine px_getIv (v := (pw_I w 61 2)) dX10_readMeeting_18 fr_10_197 rfl (px_sh1 (hI hw) sh_61) rfl ?_
  refine px_if_ne (tgt := 28) dX10_readMeeting_21 (by decide) (fun h1 => ?_) (fun h1 => ?_)
  ·
    exact (k1 h1)
  ·
    refine px_aload_n dX10_readMeeting_24 rfl rfl ?_
    exact px_callV (As := []) (st := []) (rc := 0) (rs := 0) (mc := 0) (ms := 0) dX10_readMeeting_25 lk_10_251 (px_sh1 (hI hw) sh_61) rfl rfl (Nat.le_of_ble_eq_true rfl) (k2 h1)
theorem bX10_readMeeting_28 {E : px_E} {d : Nat} {w : pw_W} {Q : Option Value → pw_W → Prop} {t : ct_T} (hw : w.1 = cs t)  
    (k1 : px_Call E d 0 0 mX10_oldPerson [.ref 61] w (fun v w' => px_W E mX10_readMeeting (d + 1) 0 0 40 [.ref 61] (v.toList ++ [.int (pw_I w 61 46), .ref 75]) w' Q)) :
    px_W E mX10_readMeeting (d + 1) 0 0 28 [.ref 61] [] w Q := by
  refine px_aload_n dX10_readMeeting_28 rfl rfl ?_
  refine px_getR (v := 75) dX10_readMeeting_29 fr_10_54 rfl (px_sh1 hw sh_61) (px_rf hw rf_61_31) (by decide) ?_
  refine px_aload_n dX10_readMeeting_32 rfl rfl ?_
  refine px_getI dX10_readMeeting_33 fr_10_356 rfl (px_sh1 hw sh_61) ?_
  refine px_aload_n dX10_readMeeting_36 rfl rfl ?_
  exact px_callV (As := []) (st := [.int (pw_I w 61 46), .ref 75]) (rc := 0) (rs := 0) (mc := 0) (ms := 0) dX10_readMeeting_37 lk_10_359 (px_sh1 hw sh_61) rfl rfl (Nat.le_of_ble_eq_true rfl) k1
theorem bX10_readMeeting_40 {E : px_E} {d : Nat} {w : pw_W} {Q : Option Value → pw_W → Prop} {t : ct_T} (hw : w.1 = cs t) {y1 y2 : Int32}  (j1 : Nat) (hj1 : y1 = nI j1) (hl1 : j1 < 9)
    (k1 : ¬ (pw_I w 61 2) = 0 → px_W E mX10_readMeeting (d + 1) 0 0 74 [.ref 61] [] (pw_sI w 75 j1 y2) Q)
    (k2 : (pw_I w 61 2) = 0 → px_W E mX10_readMeeting (d + 1) 0 0 48 [.ref 61] [] (pw_sI w 75 j1 y2) Q) :
    px_W E mX10_readMeeting (d + 1) 0 0 40 [.ref 61] [.int y2, .int y1, .ref 75] w Q := by
  refine px_iast dX10_readMeeting_40 (px_sh2 hw sh_75) (by decide) j1 hj1 hl1 (by omega) ?_
  refine px_aload_n dX10_readMeeting_41 rfl rfl ?_
  refine px_getIv (v := (pw_I w 61 2)) dX10_readMeeting_42 fr_10_197 rfl (px_sh1 (hI hw) sh_61) rfl ?_
  refine px_if_ne (tgt := 74) dX10_readMeeting_45 (by decide) (fun h1 => ?_) (fun h1 => ?_)
  ·
    exact (k1 h1)
  ·
    exact (k2 h1)
theorem bX10_readMeeting_48 {E : px_E} {d : Nat} {w : pw_W} {Q : Option Value → pw_W → Prop} {t : ct_T} (hw : w.1 = cs t)  (j1 : Nat) (hj1 : (pw_I w 61 46) = nI j1) (hl1 : j1 < 9)
    (k1 : ¬ (pw_I w 74 j1) = (pw_I w 75 j1) → px_W E mX10_readMeeting (d + 1) 0 0 74 [.ref 61] [] w Q)
    (k2 : (pw_I w 74 j1) = (pw_I w 75 j1) → px_Call E d 0 0 mX10_wrong [.ref 61, .int 3] w (fun v w' => px_W E mX10_readMeeting (d + 1) 0 0 74 [.ref 61] (v.toList ++ []) w' Q)) :
    px_W E mX10_readMeeting (d + 1) 0 0 48 [.ref 61] [] w Q := by
  refine px_aload_n dX10_readMeeting_48 rfl rfl ?_
  refine px_getR (v := 74) dX10_readMeeting_49 fr_10_51 rfl (px_sh1 hw sh_61) (px_rf hw rf_61_30) (by decide) ?_
  refine px_aload_n dX10_readMeeting_52 rfl rfl ?_
  refine px_getI dX10_readMeeting_53 fr_10_356 rfl (px_sh1 hw sh_61) ?_
  refine px_iald dX10_readMeeting_56 (px_sh2 hw sh_74) (by decide) j1 hj1 hl1 ?_
  refine px_aload_n dX10_readMeeting_57 rfl rfl ?_
  refine px_getR (v := 75) dX10_readMeeting_58 fr_10_54 rfl (px_sh1 hw sh_61) (px_rf hw rf_61_31) (by decide) ?_
  refine px_aload_n dX10_readMeeting_61 rfl rfl ?_
  refine px_getI dX10_readMeeting_62 fr_10_356 rfl (px_sh1 hw sh_61) ?_
  refine px_iald dX10_readMeeting_65 (px_sh2 hw sh_75) (by decide) j1 hj1 hl1 ?_
  refine px_icmp_ne (tgt := 74) dX10_readMeeting_66 (by decide) (fun h1 => ?_) (fun h1 => ?_)
  ·
    exact (k1 h1)
  ·
    refine px_aload_n dX10_readMeeting_69 rfl rfl ?_
    refine px_iconst dX10_readMeeting_70 ic_3 ?_
    exact px_callV (As := [.int 3]) (st := []) (rc := 0) (rs := 0) (mc := 0) (ms := 0) dX10_readMeeting_71 lk_10_248 (px_sh1 hw sh_61) rfl rfl (Nat.le_of_ble_eq_true rfl) (k2 h1)
theorem bX10_readMeeting_74 {E : px_E} {d : Nat} {w : pw_W} {Q : Option Value → pw_W → Prop} {t : ct_T} (hw : w.1 = cs t)  
    (k1 : ¬ (pw_I w 61 2) = 0 → px_W E mX10_readMeeting (d + 1) 0 0 85 [.ref 61] [] w Q)
    (k2 : (pw_I w 61 2) = 0 → px_Call E d 0 0 mX10_token [.ref 61] w (fun v w' => px_W E mX10_readMeeting (d + 1) 0 0 85 [.ref 61] (v.toList ++ []) w' Q)) :
    px_W E mX10_readMeeting (d + 1) 0 0 74 [.ref 61] [] w Q := by
  refine px_aload_n dX10_readMeeting_74 rfl rfl ?_
  refine px_getI dX10_readMeeting_75 fr_10_197 rfl (px_sh1 hw sh_61) ?_
  refine px_if_ne (tgt := 85) dX10_readMeeting_78 (by decide) (fun h1 => ?_) (fun h1 => ?_)
  ·
    exact (k1 h1)
  ·
    refine px_aload_n dX10_readMeeting_81 rfl rfl ?_
    exact px_callV (As := []) (st := []) (rc := 0) (rs := 0) (mc := 0) (ms := 0) dX10_readMeeting_82 lk_10_251 (px_sh1 hw sh_61) rfl rfl (Nat.le_of_ble_eq_true rfl) (k2 h1)
theorem bX10_readMeeting_85 {E : px_E} {d : Nat} {w : pw_W} {Q : Option Value → pw_W → Prop} {t : ct_T} (hw : w.1 = cs t)  
    (k1 : px_Call E d 0 0 mX10_told [.ref 61, .long 28526, .int 0, .int 6] w (fun v w' => px_W E mX10_readMeeting (d + 1) 0 0 103 [.ref 61] (v.toList ++ [.int (pw_I w 61 46), .ref 76]) w' Q)) :
    px_W E mX10_readMeeting (d + 1) 0 0 85 [.ref 61] [] w Q := by
  refine px_aload_n dX10_readMeeting_85 rfl rfl ?_
  refine px_getR (v := 76) dX10_readMeeting_86 fr_10_57 rfl (px_sh1 hw sh_61) (px_rf hw rf_61_32) (by decide) ?_
  refine px_aload_n dX10_readMeeting_89 rfl rfl ?_
  refine px_getI dX10_readMeeting_90 fr_10_356 rfl (px_sh1 hw sh_61) ?_
  refine px_aload_n dX10_readMeeting_93 rfl rfl ?_
  refine px_ldc2 dX10_readMeeting_94 (px_in7 54 rfl rfl) ?_
  refine px_iconst dX10_readMeeting_97 ic_0 ?_
  refine px_bipush dX10_readMeeting_98 bp_6 ?_
  exact px_callV (As := [.long 28526, .int 0, .int 6]) (st := [.int (pw_I w 61 46), .ref 76]) (rc := 0) (rs := 0) (mc := 0) (ms := 0) dX10_readMeeting_100 lk_10_262 (px_sh1 hw sh_61) rfl rfl (Nat.le_of_ble_eq_true rfl) k1
theorem bX10_readMeeting_103 {E : px_E} {d : Nat} {w : pw_W} {Q : Option Value → pw_W → Prop} {t : ct_T} (hw : w.1 = cs t) {y1 y2 : Int32}  (j1 : Nat) (hj1 : y1 = nI j1) (hl1 : j1 < 9)
    (k1 : ¬ (pw_I w 61 2) = 0 → px_W E mX10_readMeeting (d + 1) 0 0 121 [.null] [] (pw_sI w 76 j1 y2) Q)
    (k2 : (pw_I w 61 2) = 0 → px_W E mX10_readMeeting (d + 1) 0 0 121 [.null] [] (pw_sI (pw_sI w 76 j1 y2) 61 46 ((pw_I w 61 46) + 1)) Q) :
    px_W E mX10_readMeeting (d + 1) 0 0 103 [.ref 61] [.int y2, .int y1, .ref 76] w Q := by
  refine px_iast dX10_readMeeting_103 (px_sh2 hw sh_76) (by decide) j1 hj1 hl1 (by omega) ?_
  refine px_aload_n dX10_readMeeting_104 rfl rfl ?_
  refine px_getIv (v := (pw_I w 61 2)) dX10_readMeeting_105 fr_10_197 rfl (px_sh1 (hI hw) sh_61) rfl ?_
  refine px_if_ne (tgt := 121) dX10_readMeeting_108 (by decide) (fun h1 => ?_) (fun h1 => ?_)
  ·
    exact px_forget (k1 h1) ⟨Or.inl rfl, trivial⟩
  ·
    refine px_aload_n dX10_readMeeting_111 rfl rfl ?_
    refine px_dup dX10_readMeeting_112 rfl ?_
    refine px_getIv (v := (pw_I w 61 46)) dX10_readMeeting_113 fr_10_356 rfl (px_sh1 (hI hw) sh_61) rfl ?_
    refine px_iconst dX10_readMeeting_116 ic_1 ?_
    refine px_iadd dX10_readMeeting_117 ?_
    refine px_putI dX10_readMeeting_118 fl_10_356 (Or.inl rfl) rfl (px_sh1 (hI hw) sh_61) rfl rfl (by omega) ?_
    exact px_forget (k2 h1) ⟨Or.inl rfl, trivial⟩
theorem bX10_readMeeting_121 {E : px_E} {d : Nat} {w : pw_W} {Q : Option Value → pw_W → Prop} {t : ct_T} (hw : w.1 = cs t)  
    (k1 : Q none w) :
    px_W E mX10_readMeeting (d + 1) 0 0 121 [.null] [] w Q := by
  exact px_return dX10_readMeeting_121 rfl k1
theorem dX10_readOne_0 : decode mX10_readOne.2.1 0 = .ok (.aload_n 0, 1) := by decide +kernel
theorem dX10_readOne_1 : decode mX10_readOne.2.1 1 = .ok (.invokevirtual 359, 3) := by decide +kernel
theorem dX10_readOne_4 : decode mX10_readOne.2.1 4 = .ok (.istore_n 1, 1) := by decide +kernel
theorem dX10_readOne_5 : decode mX10_readOne.2.1 5 = .ok (.iconst 0, 1) := by decide +kernel
theorem dX10_readOne_6 : decode mX10_readOne.2.1 6 = .ok (.istore_n 2, 1) := by decide +kernel
theorem dX10_readOne_7 : decode mX10_readOne.2.1 7 = .ok (.iload_n 2, 1) := by decide +kernel
theorem dX10_readOne_8 : decode mX10_readOne.2.1 8 = .ok (.aload_n 0, 1) := by decide +kernel
theorem dX10_readOne_9 : decode mX10_readOne.2.1 9 = .ok (.getfield 66, 3) := by decide +kernel
theorem dX10_readOne_12 : decode mX10_readOne.2.1 12 = .ok (.aload_n 0, 1) := by decide +kernel
theorem dX10_readOne_13 : decode mX10_readOne.2.1 13 = .ok (.getfield 362, 3) := by decide +kernel
theorem dX10_readOne_16 : decode mX10_readOne.2.1 16 = .ok (.iaload, 1) := by decide +kernel
theorem dX10_readOne_17 : decode mX10_readOne.2.1 17 = .ok (.if_icmp .ge 39, 3) := by decide +kernel
theorem dX10_readOne_20 : decode mX10_readOne.2.1 20 = .ok (.aload_n 0, 1) := by decide +kernel
theorem dX10_readOne_21 : decode mX10_readOne.2.1 21 = .ok (.getfield 197, 3) := by decide +kernel
theorem dX10_readOne_24 : decode mX10_readOne.2.1 24 = .ok (.ifCond .ne 26, 3) := by decide +kernel
theorem dX10_readOne_27 : decode mX10_readOne.2.1 27 = .ok (.aload_n 0, 1) := by decide +kernel
theorem dX10_readOne_28 : decode mX10_readOne.2.1 28 = .ok (.getfield 63, 3) := by decide +kernel
theorem dX10_readOne_31 : decode mX10_readOne.2.1 31 = .ok (.bipush 6, 2) := by decide +kernel
theorem dX10_readOne_33 : decode mX10_readOne.2.1 33 = .ok (.aload_n 0, 1) := by decide +kernel
theorem dX10_readOne_34 : decode mX10_readOne.2.1 34 = .ok (.getfield 362, 3) := by decide +kernel
theorem dX10_readOne_37 : decode mX10_readOne.2.1 37 = .ok (.imul, 1) := by decide +kernel
theorem dX10_readOne_38 : decode mX10_readOne.2.1 38 = .ok (.iload_n 2, 1) := by decide +kernel
theorem dX10_readOne_39 : decode mX10_readOne.2.1 39 = .ok (.iadd, 1) := by decide +kernel
theorem dX10_readOne_40 : decode mX10_readOne.2.1 40 = .ok (.iaload, 1) := by decide +kernel
theorem dX10_readOne_41 : decode mX10_readOne.2.1 41 = .ok (.iload_n 1, 1) := by decide +kernel
theorem dX10_readOne_42 : decode mX10_readOne.2.1 42 = .ok (.if_icmp .ne 8, 3) := by decide +kernel
theorem dX10_readOne_45 : decode mX10_readOne.2.1 45 = .ok (.aload_n 0, 1) := by decide +kernel
theorem dX10_readOne_46 : decode mX10_readOne.2.1 46 = .ok (.iconst 3, 1) := by decide +kernel
theorem dX10_readOne_47 : decode mX10_readOne.2.1 47 = .ok (.invokevirtual 248, 3) := by decide +kernel
theorem dX10_readOne_50 : decode mX10_readOne.2.1 50 = .ok (.iinc 2 1, 3) := by decide +kernel
theorem dX10_readOne_53 : decode mX10_readOne.2.1 53 = .ok (.goto (-46), 3) := by decide +kernel
theorem dX10_readOne_56 : decode mX10_readOne.2.1 56 = .ok (.aload_n 0, 1) := by decide +kernel
theorem dX10_readOne_57 : decode mX10_readOne.2.1 57 = .ok (.getfield 197, 3) := by decide +kernel
theorem dX10_readOne_60 : decode mX10_readOne.2.1 60 = .ok (.ifCond .le 4, 3) := by decide +kernel
theorem dX10_readOne_63 : decode mX10_readOne.2.1 63 = .ok (.return_, 1) := by decide +kernel
theorem dX10_readOne_64 : decode mX10_readOne.2.1 64 = .ok (.aload_n 0, 1) := by decide +kernel
theorem dX10_readOne_65 : decode mX10_readOne.2.1 65 = .ok (.getfield 63, 3) := by decide +kernel
theorem dX10_readOne_68 : decode mX10_readOne.2.1 68 = .ok (.bipush 6, 2) := by decide +kernel
theorem dX10_readOne_70 : decode mX10_readOne.2.1 70 = .ok (.aload_n 0, 1) := by decide +kernel
theorem dX10_readOne_71 : decode mX10_readOne.2.1 71 = .ok (.getfield 362, 3) := by decide +kernel
theorem dX10_readOne_74 : decode mX10_readOne.2.1 74 = .ok (.imul, 1) := by decide +kernel
theorem dX10_readOne_75 : decode mX10_readOne.2.1 75 = .ok (.aload_n 0, 1) := by decide +kernel
theorem dX10_readOne_76 : decode mX10_readOne.2.1 76 = .ok (.getfield 66, 3) := by decide +kernel
theorem dX10_readOne_79 : decode mX10_readOne.2.1 79 = .ok (.aload_n 0, 1) := by decide +kernel
theorem dX10_readOne_80 : decode mX10_readOne.2.1 80 = .ok (.getfield 362, 3) := by decide +kernel
theorem dX10_readOne_83 : decode mX10_readOne.2.1 83 = .ok (.iaload, 1) := by decide +kernel
theorem dX10_readOne_84 : decode mX10_readOne.2.1 84 = .ok (.iadd, 1) := by decide +kernel
theorem dX10_readOne_85 : decode mX10_readOne.2.1 85 = .ok (.iload_n 1, 1) := by decide +kernel
theorem dX10_readOne_86 : decode mX10_readOne.2.1 86 = .ok (.iastore, 1) := by decide +kernel
theorem dX10_readOne_87 : decode mX10_readOne.2.1 87 = .ok (.aload_n 0, 1) := by decide +kernel
theorem dX10_readOne_88 : decode mX10_readOne.2.1 88 = .ok (.getfield 66, 3) := by decide +kernel
theorem dX10_readOne_91 : decode mX10_readOne.2.1 91 = .ok (.aload_n 0, 1) := by decide +kernel
theorem dX10_readOne_92 : decode mX10_readOne.2.1 92 = .ok (.getfield 362, 3) := by decide +kernel
theorem dX10_readOne_95 : decode mX10_readOne.2.1 95 = .ok (.dup2, 1) := by decide +kernel
theorem dX10_readOne_96 : decode mX10_readOne.2.1 96 = .ok (.iaload, 1) := by decide +kernel
theorem dX10_readOne_97 : decode mX10_readOne.2.1 97 = .ok (.iconst 1, 1) := by decide +kernel
theorem dX10_readOne_98 : decode mX10_readOne.2.1 98 = .ok (.iadd, 1) := by decide +kernel
theorem dX10_readOne_99 : decode mX10_readOne.2.1 99 = .ok (.iastore, 1) := by decide +kernel
theorem dX10_readOne_100 : decode mX10_readOne.2.1 100 = .ok (.aload_n 0, 1) := by decide +kernel
theorem dX10_readOne_101 : decode mX10_readOne.2.1 101 = .ok (.invokevirtual 251, 3) := by decide +kernel
theorem dX10_readOne_104 : decode mX10_readOne.2.1 104 = .ok (.return_, 1) := by decide +kernel
theorem bX10_readOne_0 {E : px_E} {d : Nat} {w : pw_W} {Q : Option Value → pw_W → Prop} {t : ct_T} (hw : w.1 = cs t)  
    (k1 : px_Call E d 0 0 mX10_oldPerson [.ref 61] w (fun v w' => px_W E mX10_readOne (d + 1) 0 0 4 [.ref 61, .null, .null] (v.toList ++ []) w' Q)) :
    px_W E mX10_readOne (d + 1) 0 0 0 [.ref 61, .null, .null] [] w Q := by
  refine px_aload_n dX10_readOne_0 rfl rfl ?_
  exact px_callV (As := []) (st := []) (rc := 0) (rs := 0) (mc := 0) (ms := 0) dX10_readOne_1 lk_10_359 (px_sh1 hw sh_61) rfl rfl (Nat.le_of_ble_eq_true rfl) k1
theorem eX10_readOne {E : px_E} {d : Nat} {w : pw_W} {Q : Option Value → pw_W → Prop} {t : ct_T} (hw : w.1 = cs t)  
    (k1 : px_Call E d 0 0 mX10_oldPerson [.ref 61] w (fun v w' => px_W E mX10_readOne (d + 1) 0 0 4 [.ref 61, .null, .null] (v.toList ++ []) w' Q)) :
    px_Call E (d + 1) 0 0 mX10_readOne [.ref 61] w Q :=
  px_enter (k := 2) (by decide) (Nat.le_of_ble_eq_true rfl) rfl (px_forget (bX10_readOne_0 hw k1) ⟨Or.inr rfl, Or.inl rfl, Or.inl rfl, trivial⟩)
theorem bX10_readOne_4 {E : px_E} {d : Nat} {w : pw_W} {Q : Option Value → pw_W → Prop} {t : ct_T} (hw : w.1 = cs t) {y0 : Int32}  
    (k1 : px_W E mX10_readOne (d + 1) 0 0 7 [.ref 61, .int y0, .int 0] [] w Q) :
    px_W E mX10_readOne (d + 1) 0 0 4 [.ref 61, .null, .null] [.int y0] w Q := by
  refine px_istore_n (ls' := [.ref 61, .int y0, .null]) dX10_readOne_4 rfl ⟨by decide, rfl⟩ rfl ?_
  refine px_iconst dX10_readOne_5 ic_0 ?_
  refine px_istore_n (ls' := [.ref 61, .int y0, .int 0]) dX10_readOne_6 rfl ⟨by decide, rfl⟩ rfl ?_
  exact k1
theorem bX10_readOne_7 {E : px_E} {d : Nat} {w : pw_W} {Q : Option Value → pw_W → Prop} {t : ct_T} (hw : w.1 = cs t) {x1 x2 : Int32}  (j1 : Nat) (hj1 : (pw_I w 61 47) = nI j1) (hl1 : j1 < 2)
    (k1 : (pw_I w 79 j1) ≤ x2 → (pw_I w 61 2) ≤ 0 → px_W E mX10_readOne (d + 1) 0 0 64 [.ref 61, .int x1, .null] [] w Q)
    (k2 : (pw_I w 79 j1) ≤ x2 → ¬ (pw_I w 61 2) ≤ 0 → Q none w)
    (k3 : ¬ (pw_I w 79 j1) ≤ x2 → ¬ (pw_I w 61 2) = 0 → px_W E mX10_readOne (d + 1) 0 0 50 [.ref 61, .int x1, .int x2] [] w Q)
    (k4 : ¬ (pw_I w 79 j1) ≤ x2 → (pw_I w 61 2) = 0 → px_W E mX10_readOne (d + 1) 0 0 27 [.ref 61, .int x1, .int x2] [] w Q) :
    px_W E mX10_readOne (d + 1) 0 0 7 [.ref 61, .int x1, .int x2] [] w Q := by
  refine px_iload_n dX10_readOne_7 rfl rfl ?_
  refine px_aload_n dX10_readOne_8 rfl rfl ?_
  refine px_getR (v := 79) dX10_readOne_9 fr_10_66 rfl (px_sh1 hw sh_61) (px_rf hw rf_61_35) (by decide) ?_
  refine px_aload_n dX10_readOne_12 rfl rfl ?_
  refine px_getI dX10_readOne_13 fr_10_362 rfl (px_sh1 hw sh_61) ?_
  refine px_iald dX10_readOne_16 (px_sh2 hw sh_79) (by decide) j1 hj1 hl1 ?_
  refine px_icmp_ge (tgt := 56) dX10_readOne_17 (by decide) (fun h1 => ?_) (fun h1 => ?_)
  ·
    refine px_aload_n dX10_readOne_56 rfl rfl ?_
    refine px_getI dX10_readOne_57 fr_10_197 rfl (px_sh1 hw sh_61) ?_
    refine px_if_le (tgt := 64) dX10_readOne_60 (by decide) (fun h2 => ?_) (fun h2 => ?_)
    ·
      exact px_forget (k1 h1 h2) ⟨Or.inr rfl, Or.inr rfl, Or.inl rfl, trivial⟩
    ·
      exact px_return dX10_readOne_63 rfl (k2 h1 h2)
  ·
    refine px_aload_n dX10_readOne_20 rfl rfl ?_
    refine px_getI dX10_readOne_21 fr_10_197 rfl (px_sh1 hw sh_61) ?_
    refine px_if_ne (tgt := 50) dX10_readOne_24 (by decide) (fun h3 => ?_) (fun h3 => ?_)
    ·
      exact (k3 h1 h3)
    ·
      exact (k4 h1 h3)
theorem bX10_readOne_27 {E : px_E} {d : Nat} {w : pw_W} {Q : Option Value → pw_W → Prop} {t : ct_T} (hw : w.1 = cs t) {x1 x2 : Int32}  (j1 : Nat) (hj1 : ((6 * (pw_I w 61 47)) + x2) = nI j1) (hl1 : j1 < 12)
    (k1 : ¬ (pw_I w 78 j1) = x1 → px_W E mX10_readOne (d + 1) 0 0 50 [.ref 61, .int x1, .int x2] [] w Q)
    (k2 : (pw_I w 78 j1) = x1 → px_Call E d 0 0 mX10_wrong [.ref 61, .int 3] w (fun v w' => px_W E mX10_readOne (d + 1) 0 0 50 [.ref 61, .int x1, .int x2] (v.toList ++ []) w' Q)) :
    px_W E mX10_readOne (d + 1) 0 0 27 [.ref 61, .int x1, .int x2] [] w Q := by
  refine px_aload_n dX10_readOne_27 rfl rfl ?_
  refine px_getR (v := 78) dX10_readOne_28 fr_10_63 rfl (px_sh1 hw sh_61) (px_rf hw rf_61_34) (by decide) ?_
  refine px_bipush dX10_readOne_31 bp_6 ?_
  refine px_aload_n dX10_readOne_33 rfl rfl ?_
  refine px_getI dX10_readOne_34 fr_10_362 rfl (px_sh1 hw sh_61) ?_
  refine px_imul dX10_readOne_37 ?_
  refine px_iload_n dX10_readOne_38 rfl rfl ?_
  refine px_iadd dX10_readOne_39 ?_
  refine px_iald dX10_readOne_40 (px_sh2 hw sh_78) (by decide) j1 hj1 hl1 ?_
  refine px_iload_n dX10_readOne_41 rfl rfl ?_
  refine px_icmp_ne (tgt := 50) dX10_readOne_42 (by decide) (fun h1 => ?_) (fun h1 => ?_)
  ·
    exact (k1 h1)
  ·
    refine px_aload_n dX10_readOne_45 rfl rfl ?_
    refine px_iconst dX10_readOne_46 ic_3 ?_
    exact px_callV (As := [.int 3]) (st := []) (rc := 0) (rs := 0) (mc := 0) (ms := 0) dX10_readOne_47 lk_10_248 (px_sh1 hw sh_61) rfl rfl (Nat.le_of_ble_eq_true rfl) (k2 h1)
theorem bX10_readOne_50 {E : px_E} {d : Nat} {w : pw_W} {Q : Option Value → pw_W → Prop} {t : ct_T} (hw : w.1 = cs t) {x1 x2 : Int32}  
    (k1 : px_W E mX10_readOne (d + 1) 0 0 7 [.ref 61, .int x1, .int (x2 + 1)] [] w Q) :
    px_W E mX10_readOne (d + 1) 0 0 50 [.ref 61, .int x1, .int x2] [] w Q := by
  refine px_iinc (ls' := [.ref 61, .int x1, .int (x2 + 1)]) dX10_readOne_50 ⟨by decide, rfl⟩ rfl rfl rfl ?_
  refine px_goto (tgt := 7) dX10_readOne_53 (by decide) ?_
  exact k1
theorem bX10_readOne_64 {E : px_E} {d : Nat} {w : pw_W} {Q : Option Value → pw_W → Prop} {t : ct_T} (hw : w.1 = cs t) {x1 : Int32}  (j1 : Nat) (hj1 : (pw_I w 61 47) = nI j1) (hl1 : j1 < 2) (j2 : Nat) (hj2 : ((6 * (pw_I w 61 47)) + (pw_I w 79 j1)) = nI j2) (hl2 : j2 < 12)
    (k1 : px_Call E d 0 0 mX10_token [.ref 61] (pw_sI (pw_sI w 78 j2 x1) 79 j1 ((pw_I w 79 j1) + 1)) (fun v w' => px_W E mX10_readOne (d + 1) 0 0 104 [.null, .null, .null] (v.toList ++ []) w' Q)) :
    px_W E mX10_readOne (d + 1) 0 0 64 [.ref 61, .int x1, .null] [] w Q := by
  refine px_aload_n dX10_readOne_64 rfl rfl ?_
  refine px_getR (v := 78) dX10_readOne_65 fr_10_63 rfl (px_sh1 hw sh_61) (px_rf hw rf_61_34) (by decide) ?_
  refine px_bipush dX10_readOne_68 bp_6 ?_
  refine px_aload_n dX10_readOne_70 rfl rfl ?_
  refine px_getI dX10_readOne_71 fr_10_362 rfl (px_sh1 hw sh_61) ?_
  refine px_imul dX10_readOne_74 ?_
  refine px_aload_n dX10_readOne_75 rfl rfl ?_
  refine px_getR (v := 79) dX10_readOne_76 fr_10_66 rfl (px_sh1 hw sh_61) (px_rf hw rf_61_35) (by decide) ?_
  refine px_aload_n dX10_readOne_79 rfl rfl ?_
  refine px_getI dX10_readOne_80 fr_10_362 rfl (px_sh1 hw sh_61) ?_
  refine px_iald dX10_readOne_83 (px_sh2 hw sh_79) (by decide) j1 hj1 hl1 ?_
  refine px_iadd dX10_readOne_84 ?_
  refine px_iload_n dX10_readOne_85 rfl rfl ?_
  refine px_iast dX10_readOne_86 (px_sh2 hw sh_78) (by decide) j2 hj2 hl2 (by omega) ?_
  refine px_aload_n dX10_readOne_87 rfl rfl ?_
  refine px_getR (v := 79) dX10_readOne_88 fr_10_66 rfl (px_sh1 (hI hw) sh_61) (px_rf (hI hw) rf_61_35) (by decide) ?_
  refine px_aload_n dX10_readOne_91 rfl rfl ?_
  refine px_getIv (v := (pw_I w 61 47)) dX10_readOne_92 fr_10_362 rfl (px_sh1 (hI hw) sh_61) rfl ?_
  refine px_dup2 dX10_readOne_95 rfl rfl ?_
  refine px_ialdv (v := (pw_I w 79 j1)) dX10_readOne_96 (px_sh2 (hI hw) sh_79) (by decide) j1 hj1 hl1 rfl ?_
  refine px_iconst dX10_readOne_97 ic_1 ?_
  refine px_iadd dX10_readOne_98 ?_
  refine px_iast dX10_readOne_99 (px_sh2 (hI hw) sh_79) (by decide) j1 hj1 hl1 (by omega) ?_
  refine px_aload_n dX10_readOne_100 rfl rfl ?_
  refine px_forget (ls' := [.null, .null, .null]) ?_ ⟨Or.inl rfl, Or.inl rfl, Or.inl rfl, trivial⟩
  exact px_callV (As := []) (st := []) (rc := 0) (rs := 0) (mc := 0) (ms := 0) dX10_readOne_101 lk_10_251 (px_sh1 (hI (hI hw)) sh_61) rfl rfl (Nat.le_of_ble_eq_true rfl) k1
theorem bX10_readOne_104 {E : px_E} {d : Nat} {w : pw_W} {Q : Option Value → pw_W → Prop} {t : ct_T} (hw : w.1 = cs t)  
    (k1 : Q none w) :
    px_W E mX10_readOne (d + 1) 0 0 104 [.null, .null, .null] [] w Q := by
  exact px_return dX10_readOne_104 rfl k1
theorem dX10_readBrother_0 : decode mX10_readBrother.2.1 0 = .ok (.aload_n 0, 1) := by decide +kernel
theorem dX10_readBrother_1 : decode mX10_readBrother.2.1 1 = .ok (.bipush 6, 2) := by decide +kernel
theorem dX10_readBrother_3 : decode mX10_readBrother.2.1 3 = .ok (.aload_n 0, 1) := by decide +kernel
theorem dX10_readBrother_4 : decode mX10_readBrother.2.1 4 = .ok (.getfield 362, 3) := by decide +kernel
theorem dX10_readBrother_7 : decode mX10_readBrother.2.1 7 = .ok (.invokevirtual 349, 3) := by decide +kernel
theorem dX10_readBrother_10 : decode mX10_readBrother.2.1 10 = .ok (.aload_n 0, 1) := by decide +kernel
theorem dX10_readBrother_11 : decode mX10_readBrother.2.1 11 = .ok (.getfield 60, 3) := by decide +kernel
theorem dX10_readBrother_14 : decode mX10_readBrother.2.1 14 = .ok (.aload_n 0, 1) := by decide +kernel
theorem dX10_readBrother_15 : decode mX10_readBrother.2.1 15 = .ok (.getfield 362, 3) := by decide +kernel
theorem dX10_readBrother_18 : decode mX10_readBrother.2.1 18 = .ok (.aload_n 0, 1) := by decide +kernel
theorem dX10_readBrother_19 : decode mX10_readBrother.2.1 19 = .ok (.ldc2_w 214, 3) := by decide +kernel
theorem dX10_readBrother_22 : decode mX10_readBrother.2.1 22 = .ok (.iconst 1, 1) := by decide +kernel
theorem dX10_readBrother_23 : decode mX10_readBrother.2.1 23 = .ok (.bipush 20, 2) := by decide +kernel
theorem dX10_readBrother_25 : decode mX10_readBrother.2.1 25 = .ok (.invokevirtual 262, 3) := by decide +kernel
theorem dX10_readBrother_28 : decode mX10_readBrother.2.1 28 = .ok (.iastore, 1) := by decide +kernel
theorem dX10_readBrother_29 : decode mX10_readBrother.2.1 29 = .ok (.aload_n 0, 1) := by decide +kernel
theorem dX10_readBrother_30 : decode mX10_readBrother.2.1 30 = .ok (.ldc2_w 216, 3) := by decide +kernel
theorem dX10_readBrother_33 : decode mX10_readBrother.2.1 33 = .ok (.invokevirtual 254, 3) := by decide +kernel
theorem dX10_readBrother_36 : decode mX10_readBrother.2.1 36 = .ok (.aload_n 0, 1) := by decide +kernel
theorem dX10_readBrother_37 : decode mX10_readBrother.2.1 37 = .ok (.getfield 66, 3) := by decide +kernel
theorem dX10_readBrother_40 : decode mX10_readBrother.2.1 40 = .ok (.aload_n 0, 1) := by decide +kernel
theorem dX10_readBrother_41 : decode mX10_readBrother.2.1 41 = .ok (.getfield 362, 3) := by decide +kernel
theorem dX10_readBrother_44 : decode mX10_readBrother.2.1 44 = .ok (.iconst 0, 1) := by decide +kernel
theorem dX10_readBrother_45 : decode mX10_readBrother.2.1 45 = .ok (.iastore, 1) := by decide +kernel
theorem dX10_readBrother_46 : decode mX10_readBrother.2.1 46 = .ok (.aload_n 0, 1) := by decide +kernel
theorem dX10_readBrother_47 : decode mX10_readBrother.2.1 47 = .ok (.getfield 197, 3) := by decide +kernel
theorem dX10_readBrother_50 : decode mX10_readBrother.2.1 50 = .ok (.ifCond .ne 7, 3) := by decide +kernel
theorem dX10_readBrother_53 : decode mX10_readBrother.2.1 53 = .ok (.aload_n 0, 1) := by decide +kernel
theorem dX10_readBrother_54 : decode mX10_readBrother.2.1 54 = .ok (.invokevirtual 365, 3) := by decide +kernel
theorem dX10_readBrother_57 : decode mX10_readBrother.2.1 57 = .ok (.aload_n 0, 1) := by decide +kernel
theorem dX10_readBrother_58 : decode mX10_readBrother.2.1 58 = .ok (.getfield 197, 3) := by decide +kernel
theorem dX10_readBrother_61 : decode mX10_readBrother.2.1 61 = .ok (.ifCond .ne 17, 3) := by decide +kernel
theorem dX10_readBrother_64 : decode mX10_readBrother.2.1 64 = .ok (.aload_n 0, 1) := by decide +kernel
theorem dX10_readBrother_65 : decode mX10_readBrother.2.1 65 = .ok (.invokevirtual 266, 3) := by decide +kernel
theorem dX10_readBrother_68 : decode mX10_readBrother.2.1 68 = .ok (.ifCond .eq 10, 3) := by decide +kernel
theorem dX10_readBrother_71 : decode mX10_readBrother.2.1 71 = .ok (.aload_n 0, 1) := by decide +kernel
theorem dX10_readBrother_72 : decode mX10_readBrother.2.1 72 = .ok (.invokevirtual 365, 3) := by decide +kernel
theorem dX10_readBrother_75 : decode mX10_readBrother.2.1 75 = .ok (.goto (-18), 3) := by decide +kernel
theorem dX10_readBrother_78 : decode mX10_readBrother.2.1 78 = .ok (.aload_n 0, 1) := by decide +kernel
theorem dX10_readBrother_79 : decode mX10_readBrother.2.1 79 = .ok (.getfield 197, 3) := by decide +kernel
theorem dX10_readBrother_82 : decode mX10_readBrother.2.1 82 = .ok (.ifCond .ne 13, 3) := by decide +kernel
theorem dX10_readBrother_85 : decode mX10_readBrother.2.1 85 = .ok (.aload_n 0, 1) := by decide +kernel
theorem dX10_readBrother_86 : decode mX10_readBrother.2.1 86 = .ok (.dup, 1) := by decide +kernel
theorem dX10_readBrother_87 : decode mX10_readBrother.2.1 87 = .ok (.getfield 362, 3) := by decide +kernel
theorem dX10_readBrother_90 : decode mX10_readBrother.2.1 90 = .ok (.iconst 1, 1) := by decide +kernel
theorem dX10_readBrother_91 : decode mX10_readBrother.2.1 91 = .ok (.iadd, 1) := by decide +kernel
theorem dX10_readBrother_92 : decode mX10_readBrother.2.1 92 = .ok (.putfield 362, 3) := by decide +kernel
theorem dX10_readBrother_95 : decode mX10_readBrother.2.1 95 = .ok (.return_, 1) := by decide +kernel
theorem bX10_readBrother_0 {E : px_E} {d : Nat} {w : pw_W} {Q : Option Value → pw_W → Prop} {t : ct_T} (hw : w.1 = cs t)  
    (k1 : px_Call E (d + 2) 0 0 mX10_newName [.ref 61, .int 6, .int (pw_I w 61 47)] w (fun v w' => px_W E mX10_readBrother (d + 3) 0 0 10 [.ref 61] (v.toList ++ []) w' Q)) :
    px_W E mX10_readBrother (d + 3) 0 0 0 [.ref 61] [] w Q := by
  refine px_aload_n dX10_readBrother_0 rfl rfl ?_
  refine px_bipush dX10_readBrother_1 bp_6 ?_
  refine px_aload_n dX10_readBrother_3 rfl rfl ?_
  refine px_getI dX10_readBrother_4 fr_10_362 rfl (px_sh1 hw sh_61) ?_
  exact px_callV (As := [.int 6, .int (pw_I w 61 47)]) (st := []) (rc := 0) (rs := 0) (mc := 0) (ms := 0) dX10_readBrother_7 lk_10_349 (px_sh1 hw sh_61) rfl rfl (Nat.le_of_ble_eq_true rfl) k1
theorem eX10_readBrother {E : px_E} {d : Nat} {w : pw_W} {Q : Option Value → pw_W → Prop} {t : ct_T} (hw : w.1 = cs t)  
    (k1 : px_Call E (d + 2) 0 0 mX10_newName [.ref 61, .int 6, .int (pw_I w 61 47)] w (fun v w' => px_W E mX10_readBrother (d + 3) 0 0 10 [.ref 61] (v.toList ++ []) w' Q)) :
    px_Call E (d + 3) 0 0 mX10_readBrother [.ref 61] w Q :=
  px_enter (k := 0) (by decide) (Nat.le_of_ble_eq_true rfl) rfl (px_forget (bX10_readBrother_0 hw k1) ⟨Or.inr rfl, trivial⟩)
theorem bX10_readBrother_10 {E : px_E} {d : Nat} {w : pw_W} {Q : Option Value → pw_W → Prop} {t : ct_T} (hw : w.1 = cs t)  
    (k1 : px_Call E (d + 2) 0 0 mX10_told [.ref 61, .long 427071335539, .int 1, .int 20] w (fun v w' => px_W E mX10_readBrother (d + 3) 0 0 28 [.ref 61] (v.toList ++ [.int (pw_I w 61 47), .ref 77]) w' Q)) :
    px_W E mX10_readBrother (d + 3) 0 0 10 [.ref 61] [] w Q := by
  refine px_aload_n dX10_readBrother_10 rfl rfl ?_
  refine px_getR (v := 77) dX10_readBrother_11 fr_10_60 rfl (px_sh1 hw sh_61) (px_rf hw rf_61_33) (by decide) ?_
  refine px_aload_n dX10_readBrother_14 rfl rfl ?_
  refine px_getI dX10_readBrother_15 fr_10_362 rfl (px_sh1 hw sh_61) ?_
  refine px_aload_n dX10_readBrother_18 rfl rfl ?_
  refine px_ldc2 dX10_readBrother_19 (px_in7 56 rfl rfl) ?_
  refine px_iconst dX10_readBrother_22 ic_1 ?_
  refine px_bipush dX10_readBrother_23 bp_20 ?_
  exact px_callV (As := [.long 427071335539, .int 1, .int 20]) (st := [.int (pw_I w 61 47), .ref 77]) (rc := 0) (rs := 0) (mc := 0) (ms := 0) dX10_readBrother_25 lk_10_262 (px_sh1 hw sh_61) rfl rfl (Nat.le_of_ble_eq_true rfl) k1
theorem bX10_readBrother_28 {E : px_E} {d : Nat} {w : pw_W} {Q : Option Value → pw_W → Prop} {t : ct_T} (hw : w.1 = cs t) {y1 y2 : Int32}  (j1 : Nat) (hj1 : y1 = nI j1) (hl1 : j1 < 2)
    (k1 : px_Call E (d + 2) 0 0 mX10_want [.ref 61, .long 491496238692] (pw_sI w 77 j1 y2) (fun v w' => px_W E mX10_readBrother (d + 3) 0 0 36 [.ref 61] (v.toList ++ []) w' Q)) :
    px_W E mX10_readBrother (d + 3) 0 0 28 [.ref 61] [.int y2, .int y1, .ref 77] w Q := by
  refine px_iast dX10_readBrother_28 (px_sh2 hw sh_77) (by decide) j1 hj1 hl1 (by omega) ?_
  refine px_aload_n dX10_readBrother_29 rfl rfl ?_
  refine px_ldc2 dX10_readBrother_30 (px_in7 57 rfl rfl) ?_
  exact px_callV (As := [.long 491496238692]) (st := []) (rc := 0) (rs := 0) (mc := 0) (ms := 0) dX10_readBrother_33 lk_10_254 (px_sh1 (hI hw) sh_61) rfl rfl (Nat.le_of_ble_eq_true rfl) k1
theorem bX10_readBrother_36 {E : px_E} {d : Nat} {w : pw_W} {Q : Option Value → pw_W → Prop} {t : ct_T} (hw : w.1 = cs t)  (j1 : Nat) (hj1 : (pw_I w 61 47) = nI j1) (hl1 : j1 < 2)
    (k1 : ¬ (pw_I w 61 2) = 0 → px_W E mX10_readBrother (d + 3) 0 0 57 [.ref 61] [] (pw_sI w 79 j1 0) Q)
    (k2 : (pw_I w 61 2) = 0 → px_Call E (d + 2) 0 0 mX10_readOne [.ref 61] (pw_sI w 79 j1 0) (fun v w' => px_W E mX10_readBrother (d + 3) 0 0 57 [.ref 61] (v.toList ++ []) w' Q)) :
    px_W E mX10_readBrother (d + 3) 0 0 36 [.ref 61] [] w Q := by
  refine px_aload_n dX10_readBrother_36 rfl rfl ?_
  refine px_getR (v := 79) dX10_readBrother_37 fr_10_66 rfl (px_sh1 hw sh_61) (px_rf hw rf_61_35) (by decide) ?_
  refine px_aload_n dX10_readBrother_40 rfl rfl ?_
  refine px_getI dX10_readBrother_41 fr_10_362 rfl (px_sh1 hw sh_61) ?_
  refine px_iconst dX10_readBrother_44 ic_0 ?_
  refine px_iast dX10_readBrother_45 (px_sh2 hw sh_79) (by decide) j1 hj1 hl1 (by omega) ?_
  refine px_aload_n dX10_readBrother_46 rfl rfl ?_
  refine px_getIv (v := (pw_I w 61 2)) dX10_readBrother_47 fr_10_197 rfl (px_sh1 (hI hw) sh_61) rfl ?_
  refine px_if_ne (tgt := 57) dX10_readBrother_50 (by decide) (fun h1 => ?_) (fun h1 => ?_)
  ·
    exact (k1 h1)
  ·
    refine px_aload_n dX10_readBrother_53 rfl rfl ?_
    exact px_callV (As := []) (st := []) (rc := 0) (rs := 0) (mc := 0) (ms := 0) dX10_readBrother_54 lk_10_365 (px_sh1 (hI hw) sh_61) rfl rfl (Nat.le_of_ble_eq_true rfl) (k2 h1)
theorem bX10_readBrother_57 {E : px_E} {d : Nat} {w : pw_W} {Q : Option Value → pw_W → Prop} {t : ct_T} (hw : w.1 = cs t)  
    (k1 : ¬ (pw_I w 61 2) = 0 → px_W E mX10_readBrother (d + 3) 0 0 78 [.ref 61] [] w Q)
    (k2 : (pw_I w 61 2) = 0 → ¬ (pX10_isName w) → px_W E mX10_readBrother (d + 3) 0 0 78 [.ref 61] [] w Q)
    (k3 : (pw_I w 61 2) = 0 → (pX10_isName w) → px_Call E (d + 2) 0 0 mX10_readOne [.ref 61] w (fun v w' => px_W E mX10_readBrother (d + 3) 0 0 75 [.ref 61] (v.toList ++ []) w' Q)) :
    px_W E mX10_readBrother (d + 3) 0 0 57 [.ref 61] [] w Q := by
  refine px_aload_n dX10_readBrother_57 rfl rfl ?_
  refine px_getI dX10_readBrother_58 fr_10_197 rfl (px_sh1 hw sh_61) ?_
  refine px_if_ne (tgt := 78) dX10_readBrother_61 (by decide) (fun h1 => ?_) (fun h1 => ?_)
  ·
    exact (k1 h1)
  ·
    refine px_aload_n dX10_readBrother_64 rfl rfl ?_
    refine px_callV (As := []) (st := []) (rc := 0) (rs := 0) (mc := 0) (ms := 0) dX10_readBrother_65 lk_10_266 (px_sh1 hw sh_61) rfl rfl (Nat.le_of_ble_eq_true rfl) (sX10_isName (w := w) hw ?_)
    show px_W E mX10_readBrother (d + 3) 0 0 68 [.ref 61] [.int (jb (pX10_isName w))] w Q
    refine px_jb_eq (tgt := 78) dX10_readBrother_68 (by decide) (fun h2 => ?_) (fun h2 => ?_)
    ·
      exact (k2 h1 h2)
    ·
      refine px_aload_n dX10_readBrother_71 rfl rfl ?_
      exact px_callV (As := []) (st := []) (rc := 0) (rs := 0) (mc := 0) (ms := 0) dX10_readBrother_72 lk_10_365 (px_sh1 hw sh_61) rfl rfl (Nat.le_of_ble_eq_true rfl) (k3 h1 h2)
theorem bX10_readBrother_75 {E : px_E} {d : Nat} {w : pw_W} {Q : Option Value → pw_W → Prop} {t : ct_T} (hw : w.1 = cs t)  
    (k1 : px_W E mX10_readBrother (d + 3) 0 0 57 [.ref 61] [] w Q) :
    px_W E mX10_readBrother (d + 3) 0 0 75 [.ref 61] [] w Q := by
  refine px_goto (tgt := 57) dX10_readBrother_75 (by decide) ?_
  exact k1
theorem bX10_readBrother_78 {E : px_E} {d : Nat} {w : pw_W} {Q : Option Value → pw_W → Prop} {t : ct_T} (hw : w.1 = cs t)  
    (k1 : ¬ (pw_I w 61 2) = 0 → px_W E mX10_readBrother (d + 3) 0 0 95 [.null] [] w Q)
    (k2 : (pw_I w 61 2) = 0 → px_W E mX10_readBrother (d + 3) 0 0 95 [.null] [] (pw_sI w 61 47 ((pw_I w 61 47) + 1)) Q) :
    px_W E mX10_readBrother (d + 3) 0 0 78 [.ref 61] [] w Q := by
  refine px_aload_n dX10_readBrother_78 rfl rfl ?_
  refine px_getI dX10_readBrother_79 fr_10_197 rfl (px_sh1 hw sh_61) ?_
  refine px_if_ne (tgt := 95) dX10_readBrother_82 (by decide) (fun h1 => ?_) (fun h1 => ?_)
  ·
    exact px_forget (k1 h1) ⟨Or.inl rfl, trivial⟩
  ·
    refine px_aload_n dX10_readBrother_85 rfl rfl ?_
    refine px_dup dX10_readBrother_86 rfl ?_
    refine px_getI dX10_readBrother_87 fr_10_362 rfl (px_sh1 hw sh_61) ?_
    refine px_iconst dX10_readBrother_90 ic_1 ?_
    refine px_iadd dX10_readBrother_91 ?_
    refine px_putI dX10_readBrother_92 fl_10_362 (Or.inl rfl) rfl (px_sh1 hw sh_61) rfl rfl (by omega) ?_
    exact px_forget (k2 h1) ⟨Or.inl rfl, trivial⟩
theorem bX10_readBrother_95 {E : px_E} {d : Nat} {w : pw_W} {Q : Option Value → pw_W → Prop} {t : ct_T} (hw : w.1 = cs t)  
    (k1 : Q none w) :
    px_W E mX10_readBrother (d + 3) 0 0 95 [.null] [] w Q := by
  exact px_return dX10_readBrother_95 rfl k1
theorem dX10_readLine_0 : decode mX10_readLine.2.1 0 = .ok (.aload_n 0, 1) := by decide +kernel
theorem dX10_readLine_1 : decode mX10_readLine.2.1 1 = .ok (.ldc2_w 200, 3) := by decide +kernel
theorem dX10_readLine_4 : decode mX10_readLine.2.1 4 = .ok (.invokevirtual 244, 3) := by decide +kernel
theorem dX10_readLine_7 : decode mX10_readLine.2.1 7 = .ok (.ifCond .eq 19, 3) := by decide +kernel
theorem dX10_readLine_10 : decode mX10_readLine.2.1 10 = .ok (.aload_n 0, 1) := by decide +kernel
theorem dX10_readLine_11 : decode mX10_readLine.2.1 11 = .ok (.getfield 272, 3) := by decide +kernel
theorem dX10_readLine_14 : decode mX10_readLine.2.1 14 = .ok (.bipush 6, 2) := by decide +kernel
theorem dX10_readLine_16 : decode mX10_readLine.2.1 16 = .ok (.if_icmp .ge 10, 3) := by decide +kernel
theorem dX10_readLine_19 : decode mX10_readLine.2.1 19 = .ok (.aload_n 0, 1) := by decide +kernel
theorem dX10_readLine_20 : decode mX10_readLine.2.1 20 = .ok (.invokevirtual 368, 3) := by decide +kernel
theorem dX10_readLine_23 : decode mX10_readLine.2.1 23 = .ok (.goto 201, 3) := by decide +kernel
theorem dX10_readLine_26 : decode mX10_readLine.2.1 26 = .ok (.aload_n 0, 1) := by decide +kernel
theorem dX10_readLine_27 : decode mX10_readLine.2.1 27 = .ok (.ldc2_w 208, 3) := by decide +kernel
theorem dX10_readLine_30 : decode mX10_readLine.2.1 30 = .ok (.invokevirtual 244, 3) := by decide +kernel
theorem dX10_readLine_33 : decode mX10_readLine.2.1 33 = .ok (.ifCond .eq 19, 3) := by decide +kernel
theorem dX10_readLine_36 : decode mX10_readLine.2.1 36 = .ok (.aload_n 0, 1) := by decide +kernel
theorem dX10_readLine_37 : decode mX10_readLine.2.1 37 = .ok (.getfield 356, 3) := by decide +kernel
theorem dX10_readLine_40 : decode mX10_readLine.2.1 40 = .ok (.bipush 9, 2) := by decide +kernel
theorem dX10_readLine_42 : decode mX10_readLine.2.1 42 = .ok (.if_icmp .ge 10, 3) := by decide +kernel
theorem dX10_readLine_45 : decode mX10_readLine.2.1 45 = .ok (.aload_n 0, 1) := by decide +kernel
theorem dX10_readLine_46 : decode mX10_readLine.2.1 46 = .ok (.invokevirtual 371, 3) := by decide +kernel
theorem dX10_readLine_49 : decode mX10_readLine.2.1 49 = .ok (.goto 175, 3) := by decide +kernel
theorem dX10_readLine_52 : decode mX10_readLine.2.1 52 = .ok (.aload_n 0, 1) := by decide +kernel
theorem dX10_readLine_53 : decode mX10_readLine.2.1 53 = .ok (.ldc2_w 212, 3) := by decide +kernel
theorem dX10_readLine_56 : decode mX10_readLine.2.1 56 = .ok (.invokevirtual 244, 3) := by decide +kernel
theorem dX10_readLine_59 : decode mX10_readLine.2.1 59 = .ok (.ifCond .eq 18, 3) := by decide +kernel
theorem dX10_readLine_62 : decode mX10_readLine.2.1 62 = .ok (.aload_n 0, 1) := by decide +kernel
theorem dX10_readLine_63 : decode mX10_readLine.2.1 63 = .ok (.getfield 362, 3) := by decide +kernel
theorem dX10_readLine_66 : decode mX10_readLine.2.1 66 = .ok (.iconst 2, 1) := by decide +kernel
theorem dX10_readLine_67 : decode mX10_readLine.2.1 67 = .ok (.if_icmp .ge 10, 3) := by decide +kernel
theorem dX10_readLine_70 : decode mX10_readLine.2.1 70 = .ok (.aload_n 0, 1) := by decide +kernel
theorem dX10_readLine_71 : decode mX10_readLine.2.1 71 = .ok (.invokevirtual 374, 3) := by decide +kernel
theorem dX10_readLine_74 : decode mX10_readLine.2.1 74 = .ok (.goto 150, 3) := by decide +kernel
theorem dX10_readLine_77 : decode mX10_readLine.2.1 77 = .ok (.aload_n 0, 1) := by decide +kernel
theorem dX10_readLine_78 : decode mX10_readLine.2.1 78 = .ok (.ldc2_w 206, 3) := by decide +kernel
theorem dX10_readLine_81 : decode mX10_readLine.2.1 81 = .ok (.invokevirtual 244, 3) := by decide +kernel
theorem dX10_readLine_84 : decode mX10_readLine.2.1 84 = .ok (.ifCond .eq 17, 3) := by decide +kernel
theorem dX10_readLine_87 : decode mX10_readLine.2.1 87 = .ok (.aload_n 0, 1) := by decide +kernel
theorem dX10_readLine_88 : decode mX10_readLine.2.1 88 = .ok (.getfield 313, 3) := by decide +kernel
theorem dX10_readLine_91 : decode mX10_readLine.2.1 91 = .ok (.ifCond .ne 10, 3) := by decide +kernel
theorem dX10_readLine_94 : decode mX10_readLine.2.1 94 = .ok (.aload_n 0, 1) := by decide +kernel
theorem dX10_readLine_95 : decode mX10_readLine.2.1 95 = .ok (.invokevirtual 377, 3) := by decide +kernel
theorem dX10_readLine_98 : decode mX10_readLine.2.1 98 = .ok (.goto 126, 3) := by decide +kernel
theorem dX10_readLine_101 : decode mX10_readLine.2.1 101 = .ok (.aload_n 0, 1) := by decide +kernel
theorem dX10_readLine_102 : decode mX10_readLine.2.1 102 = .ok (.ldc2_w 218, 3) := by decide +kernel
theorem dX10_readLine_105 : decode mX10_readLine.2.1 105 = .ok (.invokevirtual 244, 3) := by decide +kernel
theorem dX10_readLine_108 : decode mX10_readLine.2.1 108 = .ok (.ifCond .eq 32, 3) := by decide +kernel
theorem dX10_readLine_111 : decode mX10_readLine.2.1 111 = .ok (.aload_n 0, 1) := by decide +kernel
theorem dX10_readLine_112 : decode mX10_readLine.2.1 112 = .ok (.getfield 380, 3) := by decide +kernel
theorem dX10_readLine_115 : decode mX10_readLine.2.1 115 = .ok (.ifCond .ne 25, 3) := by decide +kernel
theorem dX10_readLine_118 : decode mX10_readLine.2.1 118 = .ok (.aload_n 0, 1) := by decide +kernel
theorem dX10_readLine_119 : decode mX10_readLine.2.1 119 = .ok (.iconst 1, 1) := by decide +kernel
theorem dX10_readLine_120 : decode mX10_readLine.2.1 120 = .ok (.putfield 380, 3) := by decide +kernel
theorem dX10_readLine_123 : decode mX10_readLine.2.1 123 = .ok (.aload_n 0, 1) := by decide +kernel
theorem dX10_readLine_124 : decode mX10_readLine.2.1 124 = .ok (.aload_n 0, 1) := by decide +kernel
theorem dX10_readLine_125 : decode mX10_readLine.2.1 125 = .ok (.ldc2_w 218, 3) := by decide +kernel
theorem dX10_readLine_128 : decode mX10_readLine.2.1 128 = .ok (.iconst 1, 1) := by decide +kernel
theorem dX10_readLine_129 : decode mX10_readLine.2.1 129 = .ok (.bipush 99, 2) := by decide +kernel
theorem dX10_readLine_131 : decode mX10_readLine.2.1 131 = .ok (.invokevirtual 262, 3) := by decide +kernel
theorem dX10_readLine_134 : decode mX10_readLine.2.1 134 = .ok (.putfield 383, 3) := by decide +kernel
theorem dX10_readLine_137 : decode mX10_readLine.2.1 137 = .ok (.goto 87, 3) := by decide +kernel
theorem dX10_readLine_140 : decode mX10_readLine.2.1 140 = .ok (.aload_n 0, 1) := by decide +kernel
theorem dX10_readLine_141 : decode mX10_readLine.2.1 141 = .ok (.ldc2_w 220, 3) := by decide +kernel
theorem dX10_readLine_144 : decode mX10_readLine.2.1 144 = .ok (.invokevirtual 244, 3) := by decide +kernel
theorem dX10_readLine_147 : decode mX10_readLine.2.1 147 = .ok (.ifCond .eq 32, 3) := by decide +kernel
theorem dX10_readLine_150 : decode mX10_readLine.2.1 150 = .ok (.aload_n 0, 1) := by decide +kernel
theorem dX10_readLine_151 : decode mX10_readLine.2.1 151 = .ok (.getfield 386, 3) := by decide +kernel
theorem dX10_readLine_154 : decode mX10_readLine.2.1 154 = .ok (.ifCond .ne 25, 3) := by decide +kernel
theorem dX10_readLine_157 : decode mX10_readLine.2.1 157 = .ok (.aload_n 0, 1) := by decide +kernel
theorem dX10_readLine_158 : decode mX10_readLine.2.1 158 = .ok (.iconst 1, 1) := by decide +kernel
theorem dX10_readLine_159 : decode mX10_readLine.2.1 159 = .ok (.putfield 386, 3) := by decide +kernel
theorem dX10_readLine_162 : decode mX10_readLine.2.1 162 = .ok (.aload_n 0, 1) := by decide +kernel
theorem dX10_readLine_163 : decode mX10_readLine.2.1 163 = .ok (.aload_n 0, 1) := by decide +kernel
theorem dX10_readLine_164 : decode mX10_readLine.2.1 164 = .ok (.ldc2_w 220, 3) := by decide +kernel
theorem dX10_readLine_167 : decode mX10_readLine.2.1 167 = .ok (.iconst 0, 1) := by decide +kernel
theorem dX10_readLine_168 : decode mX10_readLine.2.1 168 = .ok (.bipush 100, 2) := by decide +kernel
theorem dX10_readLine_170 : decode mX10_readLine.2.1 170 = .ok (.invokevirtual 262, 3) := by decide +kernel
theorem dX10_readLine_173 : decode mX10_readLine.2.1 173 = .ok (.putfield 389, 3) := by decide +kernel
theorem dX10_readLine_176 : decode mX10_readLine.2.1 176 = .ok (.goto 48, 3) := by decide +kernel
theorem dX10_readLine_179 : decode mX10_readLine.2.1 179 = .ok (.aload_n 0, 1) := by decide +kernel
theorem dX10_readLine_180 : decode mX10_readLine.2.1 180 = .ok (.ldc2_w 222, 3) := by decide +kernel
theorem dX10_readLine_183 : decode mX10_readLine.2.1 183 = .ok (.invokevirtual 244, 3) := by decide +kernel
theorem dX10_readLine_186 : decode mX10_readLine.2.1 186 = .ok (.ifCond .eq 33, 3) := by decide +kernel
theorem dX10_readLine_189 : decode mX10_readLine.2.1 189 = .ok (.aload_n 0, 1) := by decide +kernel
theorem dX10_readLine_190 : decode mX10_readLine.2.1 190 = .ok (.getfield 392, 3) := by decide +kernel
theorem dX10_readLine_193 : decode mX10_readLine.2.1 193 = .ok (.ifCond .ne 26, 3) := by decide +kernel
theorem dX10_readLine_196 : decode mX10_readLine.2.1 196 = .ok (.aload_n 0, 1) := by decide +kernel
theorem dX10_readLine_197 : decode mX10_readLine.2.1 197 = .ok (.iconst 1, 1) := by decide +kernel
theorem dX10_readLine_198 : decode mX10_readLine.2.1 198 = .ok (.putfield 392, 3) := by decide +kernel
theorem dX10_readLine_201 : decode mX10_readLine.2.1 201 = .ok (.aload_n 0, 1) := by decide +kernel
theorem dX10_readLine_202 : decode mX10_readLine.2.1 202 = .ok (.aload_n 0, 1) := by decide +kernel
theorem dX10_readLine_203 : decode mX10_readLine.2.1 203 = .ok (.ldc2_w 222, 3) := by decide +kernel
theorem dX10_readLine_206 : decode mX10_readLine.2.1 206 = .ok (.iconst 0, 1) := by decide +kernel
theorem dX10_readLine_207 : decode mX10_readLine.2.1 207 = .ok (.sipush 999, 3) := by decide +kernel
theorem dX10_readLine_210 : decode mX10_readLine.2.1 210 = .ok (.invokevirtual 262, 3) := by decide +kernel
theorem dX10_readLine_213 : decode mX10_readLine.2.1 213 = .ok (.putfield 395, 3) := by decide +kernel
theorem dX10_readLine_216 : decode mX10_readLine.2.1 216 = .ok (.goto 8, 3) := by decide +kernel
theorem dX10_readLine_219 : decode mX10_readLine.2.1 219 = .ok (.aload_n 0, 1) := by decide +kernel
theorem dX10_readLine_220 : decode mX10_readLine.2.1 220 = .ok (.iconst 2, 1) := by decide +kernel
theorem dX10_readLine_221 : decode mX10_readLine.2.1 221 = .ok (.invokevirtual 248, 3) := by decide +kernel
theorem dX10_readLine_224 : decode mX10_readLine.2.1 224 = .ok (.aload_n 0, 1) := by decide +kernel
theorem dX10_readLine_225 : decode mX10_readLine.2.1 225 = .ok (.getfield 197, 3) := by decide +kernel
theorem dX10_readLine_228 : decode mX10_readLine.2.1 228 = .ok (.ifCond .ne 17, 3) := by decide +kernel
theorem dX10_readLine_231 : decode mX10_readLine.2.1 231 = .ok (.aload_n 0, 1) := by decide +kernel
theorem dX10_readLine_232 : decode mX10_readLine.2.1 232 = .ok (.getfield 184, 3) := by decide +kernel
theorem dX10_readLine_235 : decode mX10_readLine.2.1 235 = .ok (.bipush 59, 2) := by decide +kernel
theorem dX10_readLine_237 : decode mX10_readLine.2.1 237 = .ok (.if_icmp .eq 8, 3) := by decide +kernel
theorem dX10_readLine_240 : decode mX10_readLine.2.1 240 = .ok (.aload_n 0, 1) := by decide +kernel
theorem dX10_readLine_241 : decode mX10_readLine.2.1 241 = .ok (.iconst 2, 1) := by decide +kernel
theorem dX10_readLine_242 : decode mX10_readLine.2.1 242 = .ok (.invokevirtual 248, 3) := by decide +kernel
theorem dX10_readLine_245 : decode mX10_readLine.2.1 245 = .ok (.aload_n 0, 1) := by decide +kernel
theorem dX10_readLine_246 : decode mX10_readLine.2.1 246 = .ok (.getfield 197, 3) := by decide +kernel
theorem dX10_readLine_249 : decode mX10_readLine.2.1 249 = .ok (.ifCond .ne 7, 3) := by decide +kernel
theorem dX10_readLine_252 : decode mX10_readLine.2.1 252 = .ok (.aload_n 0, 1) := by decide +kernel
theorem dX10_readLine_253 : decode mX10_readLine.2.1 253 = .ok (.invokevirtual 251, 3) := by decide +kernel
theorem dX10_readLine_256 : decode mX10_readLine.2.1 256 = .ok (.return_, 1) := by decide +kernel
theorem bX10_readLine_0 {E : px_E} {d : Nat} {w : pw_W} {Q : Option Value → pw_W → Prop} {t : ct_T} (hw : w.1 = cs t)  
    (k1 : ¬ (pX10_isWord w 123581014175598) → px_W E mX10_readLine (d + 2) 0 0 26 [.ref 61] [] w Q)
    (k2 : (pX10_isWord w 123581014175598) → 6 ≤ (pw_I w 61 45) → px_W E mX10_readLine (d + 2) 0 0 26 [.ref 61] [] w Q)
    (k3 : (pX10_isWord w 123581014175598) → ¬ 6 ≤ (pw_I w 61 45) → px_Call E (d + 1) 0 0 mX10_readPerson [.ref 61] w (fun v w' => px_W E mX10_readLine (d + 2) 0 0 23 [.ref 61] (v.toList ++ []) w' Q)) :
    px_W E mX10_readLine (d + 2) 0 0 0 [.ref 61] [] w Q := by
  refine px_aload_n dX10_readLine_0 rfl rfl ?_
  refine px_ldc2 dX10_readLine_1 (px_in7 29 rfl rfl) ?_
  refine px_callV (As := [.long 123581014175598]) (st := []) (rc := 0) (rs := 0) (mc := 0) (ms := 0) dX10_readLine_4 lk_10_244 (px_sh1 hw sh_61) rfl rfl (Nat.le_of_ble_eq_true rfl) (sX10_isWord (w := w) hw ?_)
  show px_W E mX10_readLine (d + 2) 0 0 7 [.ref 61] [.int (jb (pX10_isWord w 123581014175598))] w Q
  refine px_jb_eq (tgt := 26) dX10_readLine_7 (by decide) (fun h1 => ?_) (fun h1 => ?_)
  ·
    exact (k1 h1)
  ·
    refine px_aload_n dX10_readLine_10 rfl rfl ?_
    refine px_getI dX10_readLine_11 fr_10_272 rfl (px_sh1 hw sh_61) ?_
    refine px_bipush dX10_readLine_14 bp_6 ?_
    refine px_icmp_ge (tgt := 26) dX10_readLine_16 (by decide) (fun h2 => ?_) (fun h2 => ?_)
    ·
      exact (k2 h1 h2)
    ·
      refine px_aload_n dX10_readLine_19 rfl rfl ?_
      exact px_callV (As := []) (st := []) (rc := 0) (rs := 0) (mc := 0) (ms := 0) dX10_readLine_20 lk_10_368 (px_sh1 hw sh_61) rfl rfl (Nat.le_of_ble_eq_true rfl) (k3 h1 h2)
theorem eX10_readLine {E : px_E} {d : Nat} {w : pw_W} {Q : Option Value → pw_W → Prop} {t : ct_T} (hw : w.1 = cs t)  
    (k1 : ¬ (pX10_isWord w 123581014175598) → px_W E mX10_readLine (d + 2) 0 0 26 [.ref 61] [] w Q)
    (k2 : (pX10_isWord w 123581014175598) → 6 ≤ (pw_I w 61 45) → px_W E mX10_readLine (d + 2) 0 0 26 [.ref 61] [] w Q)
    (k3 : (pX10_isWord w 123581014175598) → ¬ 6 ≤ (pw_I w 61 45) → px_Call E (d + 1) 0 0 mX10_readPerson [.ref 61] w (fun v w' => px_W E mX10_readLine (d + 2) 0 0 23 [.ref 61] (v.toList ++ []) w' Q)) :
    px_Call E (d + 2) 0 0 mX10_readLine [.ref 61] w Q :=
  px_enter (k := 0) (by decide) (Nat.le_of_ble_eq_true rfl) rfl (px_forget (bX10_readLine_0 hw k1 k2 k3) ⟨Or.inr rfl, trivial⟩)
theorem bX10_readLine_23 {E : px_E} {d : Nat} {w : pw_W} {Q : Option Value → pw_W → Prop} {t : ct_T} (hw : w.1 = cs t)  
    (k1 : px_W E mX10_readLine (d + 2) 0 0 224 [.ref 61] [] w Q) :
    px_W E mX10_readLine (d + 2) 0 0 23 [.ref 61] [] w Q := by
  refine px_goto (tgt := 224) dX10_readLine_23 (by decide) ?_
  exact k1
theorem bX10_readLine_26 {E : px_E} {d : Nat} {w : pw_W} {Q : Option Value → pw_W → Prop} {t : ct_T} (hw : w.1 = cs t)  
    (k1 : ¬ (pX10_isWord w 1835361652) → px_W E mX10_readLine (d + 2) 0 0 52 [.ref 61] [] w Q)
    (k2 : (pX10_isWord w 1835361652) → 9 ≤ (pw_I w 61 46) → px_W E mX10_readLine (d + 2) 0 0 52 [.ref 61] [] w Q)
    (k3 : (pX10_isWord w 1835361652) → ¬ 9 ≤ (pw_I w 61 46) → px_Call E (d + 1) 0 0 mX10_readMeeting [.ref 61] w (fun v w' => px_W E mX10_readLine (d + 2) 0 0 49 [.ref 61] (v.toList ++ []) w' Q)) :
    px_W E mX10_readLine (d + 2) 0 0 26 [.ref 61] [] w Q := by
  refine px_aload_n dX10_readLine_26 rfl rfl ?_
  refine px_ldc2 dX10_readLine_27 (px_in7 53 rfl rfl) ?_
  refine px_callV (As := [.long 1835361652]) (st := []) (rc := 0) (rs := 0) (mc := 0) (ms := 0) dX10_readLine_30 lk_10_244 (px_sh1 hw sh_61) rfl rfl (Nat.le_of_ble_eq_true rfl) (sX10_isWord (w := w) hw ?_)
  show px_W E mX10_readLine (d + 2) 0 0 33 [.ref 61] [.int (jb (pX10_isWord w 1835361652))] w Q
  refine px_jb_eq (tgt := 52) dX10_readLine_33 (by decide) (fun h1 => ?_) (fun h1 => ?_)
  ·
    exact (k1 h1)
  ·
    refine px_aload_n dX10_readLine_36 rfl rfl ?_
    refine px_getI dX10_readLine_37 fr_10_356 rfl (px_sh1 hw sh_61) ?_
    refine px_bipush dX10_readLine_40 bp_9 ?_
    refine px_icmp_ge (tgt := 52) dX10_readLine_42 (by decide) (fun h2 => ?_) (fun h2 => ?_)
    ·
      exact (k2 h1 h2)
    ·
      refine px_aload_n dX10_readLine_45 rfl rfl ?_
      exact px_callV (As := []) (st := []) (rc := 0) (rs := 0) (mc := 0) (ms := 0) dX10_readLine_46 lk_10_371 (px_sh1 hw sh_61) rfl rfl (Nat.le_of_ble_eq_true rfl) (k3 h1 h2)
theorem bX10_readLine_49 {E : px_E} {d : Nat} {w : pw_W} {Q : Option Value → pw_W → Prop} {t : ct_T} (hw : w.1 = cs t)  
    (k1 : px_W E mX10_readLine (d + 2) 0 0 224 [.ref 61] [] w Q) :
    px_W E mX10_readLine (d + 2) 0 0 49 [.ref 61] [] w Q := by
  refine px_goto (tgt := 224) dX10_readLine_49 (by decide) ?_
  exact k1
theorem bX10_readLine_52 {E : px_E} {d : Nat} {w : pw_W} {Q : Option Value → pw_W → Prop} {t : ct_T} (hw : w.1 = cs t)  
    (k1 : ¬ (pX10_isWord w 27710370737579378) → px_W E mX10_readLine (d + 2) 0 0 77 [.ref 61] [] w Q)
    (k2 : (pX10_isWord w 27710370737579378) → 2 ≤ (pw_I w 61 47) → px_W E mX10_readLine (d + 2) 0 0 77 [.ref 61] [] w Q)
    (k3 : (pX10_isWord w 27710370737579378) → ¬ 2 ≤ (pw_I w 61 47) → px_Call E (d + 1) 0 0 mX10_readBrother [.ref 61] w (fun v w' => px_W E mX10_readLine (d + 2) 0 0 74 [.ref 61] (v.toList ++ []) w' Q)) :
    px_W E mX10_readLine (d + 2) 0 0 52 [.ref 61] [] w Q := by
  refine px_aload_n dX10_readLine_52 rfl rfl ?_
  refine px_ldc2 dX10_readLine_53 (px_in7 55 rfl rfl) ?_
  refine px_callV (As := [.long 27710370737579378]) (st := []) (rc := 0) (rs := 0) (mc := 0) (ms := 0) dX10_readLine_56 lk_10_244 (px_sh1 hw sh_61) rfl rfl (Nat.le_of_ble_eq_true rfl) (sX10_isWord (w := w) hw ?_)
  show px_W E mX10_readLine (d + 2) 0 0 59 [.ref 61] [.int (jb (pX10_isWord w 27710370737579378))] w Q
  refine px_jb_eq (tgt := 77) dX10_readLine_59 (by decide) (fun h1 => ?_) (fun h1 => ?_)
  ·
    exact (k1 h1)
  ·
    refine px_aload_n dX10_readLine_62 rfl rfl ?_
    refine px_getI dX10_readLine_63 fr_10_362 rfl (px_sh1 hw sh_61) ?_
    refine px_iconst dX10_readLine_66 ic_2 ?_
    refine px_icmp_ge (tgt := 77) dX10_readLine_67 (by decide) (fun h2 => ?_) (fun h2 => ?_)
    ·
      exact (k2 h1 h2)
    ·
      refine px_aload_n dX10_readLine_70 rfl rfl ?_
      exact px_callV (As := []) (st := []) (rc := 0) (rs := 0) (mc := 0) (ms := 0) dX10_readLine_71 lk_10_374 (px_sh1 hw sh_61) rfl rfl (Nat.le_of_ble_eq_true rfl) (k3 h1 h2)
theorem bX10_readLine_74 {E : px_E} {d : Nat} {w : pw_W} {Q : Option Value → pw_W → Prop} {t : ct_T} (hw : w.1 = cs t)  
    (k1 : px_W E mX10_readLine (d + 2) 0 0 224 [.ref 61] [] w Q) :
    px_W E mX10_readLine (d + 2) 0 0 74 [.ref 61] [] w Q := by
  refine px_goto (tgt := 224) dX10_readLine_74 (by decide) ?_
  exact k1
theorem bX10_readLine_77 {E : px_E} {d : Nat} {w : pw_W} {Q : Option Value → pw_W → Prop} {t : ct_T} (hw : w.1 = cs t)  
    (k1 : ¬ (pX10_isWord w 465826574451) → px_W E mX10_readLine (d + 2) 0 0 101 [.ref 61] [] w Q)
    (k2 : (pX10_isWord w 465826574451) → ¬ (pw_I w 61 24) = 0 → px_W E mX10_readLine (d + 2) 0 0 101 [.ref 61] [] w Q)
    (k3 : (pX10_isWord w 465826574451) → (pw_I w 61 24) = 0 → px_Call E (d + 1) 0 0 mX10_formula [.ref 61] w (fun v w' => px_W E mX10_readLine (d + 2) 0 0 98 [.ref 61] (v.toList ++ []) w' Q)) :
    px_W E mX10_readLine (d + 2) 0 0 77 [.ref 61] [] w Q := by
  refine px_aload_n dX10_readLine_77 rfl rfl ?_
  refine px_ldc2 dX10_readLine_78 (px_in7 52 rfl rfl) ?_
  refine px_callV (As := [.long 465826574451]) (st := []) (rc := 0) (rs := 0) (mc := 0) (ms := 0) dX10_readLine_81 lk_10_244 (px_sh1 hw sh_61) rfl rfl (Nat.le_of_ble_eq_true rfl) (sX10_isWord (w := w) hw ?_)
  show px_W E mX10_readLine (d + 2) 0 0 84 [.ref 61] [.int (jb (pX10_isWord w 465826574451))] w Q
  refine px_jb_eq (tgt := 101) dX10_readLine_84 (by decide) (fun h1 => ?_) (fun h1 => ?_)
  ·
    exact (k1 h1)
  ·
    refine px_aload_n dX10_readLine_87 rfl rfl ?_
    refine px_getI dX10_readLine_88 fr_10_313 rfl (px_sh1 hw sh_61) ?_
    refine px_if_ne (tgt := 101) dX10_readLine_91 (by decide) (fun h2 => ?_) (fun h2 => ?_)
    ·
      exact (k2 h1 h2)
    ·
      refine px_aload_n dX10_readLine_94 rfl rfl ?_
      exact px_callV (As := []) (st := []) (rc := 0) (rs := 0) (mc := 0) (ms := 0) dX10_readLine_95 lk_10_377 (px_sh1 hw sh_61) rfl rfl (Nat.le_of_ble_eq_true rfl) (k3 h1 h2)
theorem bX10_readLine_98 {E : px_E} {d : Nat} {w : pw_W} {Q : Option Value → pw_W → Prop} {t : ct_T} (hw : w.1 = cs t)  
    (k1 : px_W E mX10_readLine (d + 2) 0 0 224 [.ref 61] [] w Q) :
    px_W E mX10_readLine (d + 2) 0 0 98 [.ref 61] [] w Q := by
  refine px_goto (tgt := 224) dX10_readLine_98 (by decide) ?_
  exact k1
theorem bX10_readLine_101 {E : px_E} {d : Nat} {w : pw_W} {Q : Option Value → pw_W → Prop} {t : ct_T} (hw : w.1 = cs t)  
    (k1 : ¬ (pX10_isWord w 6448484) → px_W E mX10_readLine (d + 2) 0 0 140 [.ref 61] [] w Q)
    (k2 : (pX10_isWord w 6448484) → ¬ (pw_I w 61 57) = 0 → px_W E mX10_readLine (d + 2) 0 0 140 [.ref 61] [] w Q)
    (k3 : (pX10_isWord w 6448484) → (pw_I w 61 57) = 0 → px_Call E (d + 1) 0 0 mX10_told [.ref 61, .long 6448484, .int 1, .int 99] (pw_sI w 61 57 1) (fun v w' => px_W E mX10_readLine (d + 2) 0 0 134 [.ref 61] (v.toList ++ [.ref 61]) w' Q)) :
    px_W E mX10_readLine (d + 2) 0 0 101 [.ref 61] [] w Q := by
  refine px_aload_n dX10_readLine_101 rfl rfl ?_
  refine px_ldc2 dX10_readLine_102 (px_in7 58 rfl rfl) ?_
  refine px_callV (As := [.long 6448484]) (st := []) (rc := 0) (rs := 0) (mc := 0) (ms := 0) dX10_readLine_105 lk_10_244 (px_sh1 hw sh_61) rfl rfl (Nat.le_of_ble_eq_true rfl) (sX10_isWord (w := w) hw ?_)
  show px_W E mX10_readLine (d + 2) 0 0 108 [.ref 61] [.int (jb (pX10_isWord w 6448484))] w Q
  refine px_jb_eq (tgt := 140) dX10_readLine_108 (by decide) (fun h1 => ?_) (fun h1 => ?_)
  ·
    exact (k1 h1)
  ·
    refine px_aload_n dX10_readLine_111 rfl rfl ?_
    refine px_getI dX10_readLine_112 fr_10_380 rfl (px_sh1 hw sh_61) ?_
    refine px_if_ne (tgt := 140) dX10_readLine_115 (by decide) (fun h2 => ?_) (fun h2 => ?_)
    ·
      exact (k2 h1 h2)
    ·
      refine px_aload_n dX10_readLine_118 rfl rfl ?_
      refine px_iconst dX10_readLine_119 ic_1 ?_
      refine px_putI dX10_readLine_120 fl_10_380 (Or.inl rfl) rfl (px_sh1 hw sh_61) (by decide) (by decide) (by omega) ?_
      refine px_aload_n dX10_readLine_123 rfl rfl ?_
      refine px_aload_n dX10_readLine_124 rfl rfl ?_
      refine px_ldc2 dX10_readLine_125 (px_in7 58 rfl rfl) ?_
      refine px_iconst dX10_readLine_128 ic_1 ?_
      refine px_bipush dX10_readLine_129 bp_99 ?_
      exact px_callV (As := [.long 6448484, .int 1, .int 99]) (st := [.ref 61]) (rc := 0) (rs := 0) (mc := 0) (ms := 0) dX10_readLine_131 lk_10_262 (px_sh1 (hI hw) sh_61) rfl rfl (Nat.le_of_ble_eq_true rfl) (k3 h1 h2)
theorem bX10_readLine_134 {E : px_E} {d : Nat} {w : pw_W} {Q : Option Value → pw_W → Prop} {t : ct_T} (hw : w.1 = cs t) {y1 : Int32}  
    (k1 : px_W E mX10_readLine (d + 2) 0 0 224 [.ref 61] [] (pw_sI w 61 48 y1) Q) :
    px_W E mX10_readLine (d + 2) 0 0 134 [.ref 61] [.int y1, .ref 61] w Q := by
  refine px_putI dX10_readLine_134 fl_10_383 (Or.inl rfl) rfl (px_sh1 hw sh_61) rfl rfl (by omega) ?_
  refine px_goto (tgt := 224) dX10_readLine_137 (by decide) ?_
  exact k1
theorem bX10_readLine_140 {E : px_E} {d : Nat} {w : pw_W} {Q : Option Value → pw_W → Prop} {t : ct_T} (hw : w.1 = cs t)  
    (k1 : ¬ (pX10_isWord w 112615677388147) → px_W E mX10_readLine (d + 2) 0 0 179 [.ref 61] [] w Q)
    (k2 : (pX10_isWord w 112615677388147) → ¬ (pw_I w 61 58) = 0 → px_W E mX10_readLine (d + 2) 0 0 179 [.ref 61] [] w Q)
    (k3 : (pX10_isWord w 112615677388147) → (pw_I w 61 58) = 0 → px_Call E (d + 1) 0 0 mX10_told [.ref 61, .long 112615677388147, .int 0, .int 100] (pw_sI w 61 58 1) (fun v w' => px_W E mX10_readLine (d + 2) 0 0 173 [.ref 61] (v.toList ++ [.ref 61]) w' Q)) :
    px_W E mX10_readLine (d + 2) 0 0 140 [.ref 61] [] w Q := by
  refine px_aload_n dX10_readLine_140 rfl rfl ?_
  refine px_ldc2 dX10_readLine_141 (px_in7 59 rfl rfl) ?_
  refine px_callV (As := [.long 112615677388147]) (st := []) (rc := 0) (rs := 0) (mc := 0) (ms := 0) dX10_readLine_144 lk_10_244 (px_sh1 hw sh_61) rfl rfl (Nat.le_of_ble_eq_true rfl) (sX10_isWord (w := w) hw ?_)
  show px_W E mX10_readLine (d + 2) 0 0 147 [.ref 61] [.int (jb (pX10_isWord w 112615677388147))] w Q
  refine px_jb_eq (tgt := 179) dX10_readLine_147 (by decide) (fun h1 => ?_) (fun h1 => ?_)
  ·
    exact (k1 h1)
  ·
    refine px_aload_n dX10_readLine_150 rfl rfl ?_
    refine px_getI dX10_readLine_151 fr_10_386 rfl (px_sh1 hw sh_61) ?_
    refine px_if_ne (tgt := 179) dX10_readLine_154 (by decide) (fun h2 => ?_) (fun h2 => ?_)
    ·
      exact (k2 h1 h2)
    ·
      refine px_aload_n dX10_readLine_157 rfl rfl ?_
      refine px_iconst dX10_readLine_158 ic_1 ?_
      refine px_putI dX10_readLine_159 fl_10_386 (Or.inl rfl) rfl (px_sh1 hw sh_61) (by decide) (by decide) (by omega) ?_
      refine px_aload_n dX10_readLine_162 rfl rfl ?_
      refine px_aload_n dX10_readLine_163 rfl rfl ?_
      refine px_ldc2 dX10_readLine_164 (px_in7 59 rfl rfl) ?_
      refine px_iconst dX10_readLine_167 ic_0 ?_
      refine px_bipush dX10_readLine_168 bp_100 ?_
      exact px_callV (As := [.long 112615677388147, .int 0, .int 100]) (st := [.ref 61]) (rc := 0) (rs := 0) (mc := 0) (ms := 0) dX10_readLine_170 lk_10_262 (px_sh1 (hI hw) sh_61) rfl rfl (Nat.le_of_ble_eq_true rfl) (k3 h1 h2)
theorem bX10_readLine_173 {E : px_E} {d : Nat} {w : pw_W} {Q : Option Value → pw_W → Prop} {t : ct_T} (hw : w.1 = cs t) {y1 : Int32}  
    (k1 : px_W E mX10_readLine (d + 2) 0 0 224 [.ref 61] [] (pw_sI w 61 49 y1) Q) :
    px_W E mX10_readLine (d + 2) 0 0 173 [.ref 61] [.int y1, .ref 61] w Q := by
  refine px_putI dX10_readLine_173 fl_10_389 (Or.inl rfl) rfl (px_sh1 hw sh_61) rfl rfl (by omega) ?_
  refine px_goto (tgt := 224) dX10_readLine_176 (by decide) ?_
  exact k1
theorem bX10_readLine_179 {E : px_E} {d : Nat} {w : pw_W} {Q : Option Value → pw_W → Prop} {t : ct_T} (hw : w.1 = cs t)  
    (k1 : ¬ (pX10_isWord w 1685217655) → px_W E mX10_readLine (d + 2) 0 0 219 [.ref 61] [] w Q)
    (k2 : (pX10_isWord w 1685217655) → ¬ (pw_I w 61 59) = 0 → px_W E mX10_readLine (d + 2) 0 0 219 [.ref 61] [] w Q)
    (k3 : (pX10_isWord w 1685217655) → (pw_I w 61 59) = 0 → px_Call E (d + 1) 0 0 mX10_told [.ref 61, .long 1685217655, .int 0, .int 999] (pw_sI w 61 59 1) (fun v w' => px_W E mX10_readLine (d + 2) 0 0 213 [.ref 61] (v.toList ++ [.ref 61]) w' Q)) :
    px_W E mX10_readLine (d + 2) 0 0 179 [.ref 61] [] w Q := by
  refine px_aload_n dX10_readLine_179 rfl rfl ?_
  refine px_ldc2 dX10_readLine_180 (px_in7 60 rfl rfl) ?_
  refine px_callV (As := [.long 1685217655]) (st := []) (rc := 0) (rs := 0) (mc := 0) (ms := 0) dX10_readLine_183 lk_10_244 (px_sh1 hw sh_61) rfl rfl (Nat.le_of_ble_eq_true rfl) (sX10_isWord (w := w) hw ?_)
  show px_W E mX10_readLine (d + 2) 0 0 186 [.ref 61] [.int (jb (pX10_isWord w 1685217655))] w Q
  refine px_jb_eq (tgt := 219) dX10_readLine_186 (by decide) (fun h1 => ?_) (fun h1 => ?_)
  ·
    exact (k1 h1)
  ·
    refine px_aload_n dX10_readLine_189 rfl rfl ?_
    refine px_getI dX10_readLine_190 fr_10_392 rfl (px_sh1 hw sh_61) ?_
    refine px_if_ne (tgt := 219) dX10_readLine_193 (by decide) (fun h2 => ?_) (fun h2 => ?_)
    ·
      exact (k2 h1 h2)
    ·
      refine px_aload_n dX10_readLine_196 rfl rfl ?_
      refine px_iconst dX10_readLine_197 ic_1 ?_
      refine px_putI dX10_readLine_198 fl_10_392 (Or.inl rfl) rfl (px_sh1 hw sh_61) (by decide) (by decide) (by omega) ?_
      refine px_aload_n dX10_readLine_201 rfl rfl ?_
      refine px_aload_n dX10_readLine_202 rfl rfl ?_
      refine px_ldc2 dX10_readLine_203 (px_in7 60 rfl rfl) ?_
      refine px_iconst dX10_readLine_206 ic_0 ?_
      refine px_sipush dX10_readLine_207 sp_999 ?_
      exact px_callV (As := [.long 1685217655, .int 0, .int 999]) (st := [.ref 61]) (rc := 0) (rs := 0) (mc := 0) (ms := 0) dX10_readLine_210 lk_10_262 (px_sh1 (hI hw) sh_61) rfl rfl (Nat.le_of_ble_eq_true rfl) (k3 h1 h2)
theorem bX10_readLine_213 {E : px_E} {d : Nat} {w : pw_W} {Q : Option Value → pw_W → Prop} {t : ct_T} (hw : w.1 = cs t) {y1 : Int32}  
    (k1 : px_W E mX10_readLine (d + 2) 0 0 224 [.ref 61] [] (pw_sI w 61 50 y1) Q) :
    px_W E mX10_readLine (d + 2) 0 0 213 [.ref 61] [.int y1, .ref 61] w Q := by
  refine px_putI dX10_readLine_213 fl_10_395 (Or.inl rfl) rfl (px_sh1 hw sh_61) rfl rfl (by omega) ?_
  refine px_goto (tgt := 224) dX10_readLine_216 (by decide) ?_
  exact k1
theorem bX10_readLine_219 {E : px_E} {d : Nat} {w : pw_W} {Q : Option Value → pw_W → Prop} {t : ct_T} (hw : w.1 = cs t)  
    (k1 : px_Call E (d + 1) 0 0 mX10_wrong [.ref 61, .int 2] w (fun v w' => px_W E mX10_readLine (d + 2) 0 0 224 [.ref 61] (v.toList ++ []) w' Q)) :
    px_W E mX10_readLine (d + 2) 0 0 219 [.ref 61] [] w Q := by
  refine px_aload_n dX10_readLine_219 rfl rfl ?_
  refine px_iconst dX10_readLine_220 ic_2 ?_
  exact px_callV (As := [.int 2]) (st := []) (rc := 0) (rs := 0) (mc := 0) (ms := 0) dX10_readLine_221 lk_10_248 (px_sh1 hw sh_61) rfl rfl (Nat.le_of_ble_eq_true rfl) k1
theorem bX10_readLine_224 {E : px_E} {d : Nat} {w : pw_W} {Q : Option Value → pw_W → Prop} {t : ct_T} (hw : w.1 = cs t)  
    (k1 : ¬ (pw_I w 61 2) = 0 → px_W E mX10_readLine (d + 2) 0 0 245 [.ref 61] [] w Q)
    (k2 : (pw_I w 61 2) = 0 → (pw_I w 61 6) = 59 → px_W E mX10_readLine (d + 2) 0 0 245 [.ref 61] [] w Q)
    (k3 : (pw_I w 61 2) = 0 → ¬ (pw_I w 61 6) = 59 → px_Call E (d + 1) 0 0 mX10_wrong [.ref 61, .int 2] w (fun v w' => px_W E mX10_readLine (d + 2) 0 0 245 [.ref 61] (v.toList ++ []) w' Q)) :
    px_W E mX10_readLine (d + 2) 0 0 224 [.ref 61] [] w Q := by
  refine px_aload_n dX10_readLine_224 rfl rfl ?_
  refine px_getI dX10_readLine_225 fr_10_197 rfl (px_sh1 hw sh_61) ?_
  refine px_if_ne (tgt := 245) dX10_readLine_228 (by decide) (fun h1 => ?_) (fun h1 => ?_)
  ·
    exact (k1 h1)
  ·
    refine px_aload_n dX10_readLine_231 rfl rfl ?_
    refine px_getI dX10_readLine_232 fr_10_184 rfl (px_sh1 hw sh_61) ?_
    refine px_bipush dX10_readLine_235 bp_59 ?_
    refine px_icmp_eq (tgt := 245) dX10_readLine_237 (by decide) (fun h2 => ?_) (fun h2 => ?_)
    ·
      exact (k2 h1 h2)
    ·
      refine px_aload_n dX10_readLine_240 rfl rfl ?_
      refine px_iconst dX10_readLine_241 ic_2 ?_
      exact px_callV (As := [.int 2]) (st := []) (rc := 0) (rs := 0) (mc := 0) (ms := 0) dX10_readLine_242 lk_10_248 (px_sh1 hw sh_61) rfl rfl (Nat.le_of_ble_eq_true rfl) (k3 h1 h2)
theorem bX10_readLine_245 {E : px_E} {d : Nat} {w : pw_W} {Q : Option Value → pw_W → Prop} {t : ct_T} (hw : w.1 = cs t)  
    (k1 : ¬ (pw_I w 61 2) = 0 → px_W E mX10_readLine (d + 2) 0 0 256 [.null] [] w Q)
    (k2 : (pw_I w 61 2) = 0 → px_Call E (d + 1) 0 0 mX10_token [.ref 61] w (fun v w' => px_W E mX10_readLine (d + 2) 0 0 256 [.null] (v.toList ++ []) w' Q)) :
    px_W E mX10_readLine (d + 2) 0 0 245 [.ref 61] [] w Q := by
  refine px_aload_n dX10_readLine_245 rfl rfl ?_
  refine px_getI dX10_readLine_246 fr_10_197 rfl (px_sh1 hw sh_61) ?_
  refine px_if_ne (tgt := 256) dX10_readLine_249 (by decide) (fun h1 => ?_) (fun h1 => ?_)
  ·
    exact px_forget (k1 h1) ⟨Or.inl rfl, trivial⟩
  ·
    refine px_aload_n dX10_readLine_252 rfl rfl ?_
    refine px_forget (ls' := [.null]) ?_ ⟨Or.inl rfl, trivial⟩
    exact px_callV (As := []) (st := []) (rc := 0) (rs := 0) (mc := 0) (ms := 0) dX10_readLine_253 lk_10_251 (px_sh1 hw sh_61) rfl rfl (Nat.le_of_ble_eq_true rfl) (k2 h1)
theorem bX10_readLine_256 {E : px_E} {d : Nat} {w : pw_W} {Q : Option Value → pw_W → Prop} {t : ct_T} (hw : w.1 = cs t)  
    (k1 : Q none w) :
    px_W E mX10_readLine (d + 2) 0 0 256 [.null] [] w Q := by
  exact px_return dX10_readLine_256 rfl k1
theorem dX10_readAll_0 : decode mX10_readAll.2.1 0 = .ok (.aload_n 0, 1) := by decide +kernel
theorem dX10_readAll_1 : decode mX10_readAll.2.1 1 = .ok (.aload_n 0, 1) := by decide +kernel
theorem dX10_readAll_2 : decode mX10_readAll.2.1 2 = .ok (.getfield 157, 3) := by decide +kernel
theorem dX10_readAll_5 : decode mX10_readAll.2.1 5 = .ok (.putfield 167, 3) := by decide +kernel
theorem dX10_readAll_8 : decode mX10_readAll.2.1 8 = .ok (.aload_n 0, 1) := by decide +kernel
theorem dX10_readAll_9 : decode mX10_readAll.2.1 9 = .ok (.iconst 0, 1) := by decide +kernel
theorem dX10_readAll_10 : decode mX10_readAll.2.1 10 = .ok (.putfield 157, 3) := by decide +kernel
theorem dX10_readAll_13 : decode mX10_readAll.2.1 13 = .ok (.aload_n 0, 1) := by decide +kernel
theorem dX10_readAll_14 : decode mX10_readAll.2.1 14 = .ok (.iconst 0, 1) := by decide +kernel
theorem dX10_readAll_15 : decode mX10_readAll.2.1 15 = .ok (.putfield 164, 3) := by decide +kernel
theorem dX10_readAll_18 : decode mX10_readAll.2.1 18 = .ok (.aload_n 0, 1) := by decide +kernel
theorem dX10_readAll_19 : decode mX10_readAll.2.1 19 = .ok (.iconst 0, 1) := by decide +kernel
theorem dX10_readAll_20 : decode mX10_readAll.2.1 20 = .ok (.putfield 197, 3) := by decide +kernel
theorem dX10_readAll_23 : decode mX10_readAll.2.1 23 = .ok (.aload_n 0, 1) := by decide +kernel
theorem dX10_readAll_24 : decode mX10_readAll.2.1 24 = .ok (.iconst (-1), 1) := by decide +kernel
theorem dX10_readAll_25 : decode mX10_readAll.2.1 25 = .ok (.putfield 13, 3) := by decide +kernel
theorem dX10_readAll_28 : decode mX10_readAll.2.1 28 = .ok (.aload_n 0, 1) := by decide +kernel
theorem dX10_readAll_29 : decode mX10_readAll.2.1 29 = .ok (.iconst 0, 1) := by decide +kernel
theorem dX10_readAll_30 : decode mX10_readAll.2.1 30 = .ok (.putfield 272, 3) := by decide +kernel
theorem dX10_readAll_33 : decode mX10_readAll.2.1 33 = .ok (.aload_n 0, 1) := by decide +kernel
theorem dX10_readAll_34 : decode mX10_readAll.2.1 34 = .ok (.iconst 0, 1) := by decide +kernel
theorem dX10_readAll_35 : decode mX10_readAll.2.1 35 = .ok (.putfield 356, 3) := by decide +kernel
theorem dX10_readAll_38 : decode mX10_readAll.2.1 38 = .ok (.aload_n 0, 1) := by decide +kernel
theorem dX10_readAll_39 : decode mX10_readAll.2.1 39 = .ok (.iconst 0, 1) := by decide +kernel
theorem dX10_readAll_40 : decode mX10_readAll.2.1 40 = .ok (.putfield 362, 3) := by decide +kernel
theorem dX10_readAll_43 : decode mX10_readAll.2.1 43 = .ok (.aload_n 0, 1) := by decide +kernel
theorem dX10_readAll_44 : decode mX10_readAll.2.1 44 = .ok (.bipush 40, 2) := by decide +kernel
theorem dX10_readAll_46 : decode mX10_readAll.2.1 46 = .ok (.putfield 383, 3) := by decide +kernel
theorem dX10_readAll_49 : decode mX10_readAll.2.1 49 = .ok (.aload_n 0, 1) := by decide +kernel
theorem dX10_readAll_50 : decode mX10_readAll.2.1 50 = .ok (.iconst 0, 1) := by decide +kernel
theorem dX10_readAll_51 : decode mX10_readAll.2.1 51 = .ok (.putfield 389, 3) := by decide +kernel
theorem dX10_readAll_54 : decode mX10_readAll.2.1 54 = .ok (.aload_n 0, 1) := by decide +kernel
theorem dX10_readAll_55 : decode mX10_readAll.2.1 55 = .ok (.iconst 0, 1) := by decide +kernel
theorem dX10_readAll_56 : decode mX10_readAll.2.1 56 = .ok (.putfield 395, 3) := by decide +kernel
theorem dX10_readAll_59 : decode mX10_readAll.2.1 59 = .ok (.aload_n 0, 1) := by decide +kernel
theorem dX10_readAll_60 : decode mX10_readAll.2.1 60 = .ok (.iconst 0, 1) := by decide +kernel
theorem dX10_readAll_61 : decode mX10_readAll.2.1 61 = .ok (.putfield 380, 3) := by decide +kernel
theorem dX10_readAll_64 : decode mX10_readAll.2.1 64 = .ok (.aload_n 0, 1) := by decide +kernel
theorem dX10_readAll_65 : decode mX10_readAll.2.1 65 = .ok (.iconst 0, 1) := by decide +kernel
theorem dX10_readAll_66 : decode mX10_readAll.2.1 66 = .ok (.putfield 386, 3) := by decide +kernel
theorem dX10_readAll_69 : decode mX10_readAll.2.1 69 = .ok (.aload_n 0, 1) := by decide +kernel
theorem dX10_readAll_70 : decode mX10_readAll.2.1 70 = .ok (.iconst 0, 1) := by decide +kernel
theorem dX10_readAll_71 : decode mX10_readAll.2.1 71 = .ok (.putfield 392, 3) := by decide +kernel
theorem dX10_readAll_74 : decode mX10_readAll.2.1 74 = .ok (.aload_n 0, 1) := by decide +kernel
theorem dX10_readAll_75 : decode mX10_readAll.2.1 75 = .ok (.iconst 0, 1) := by decide +kernel
theorem dX10_readAll_76 : decode mX10_readAll.2.1 76 = .ok (.putfield 313, 3) := by decide +kernel
theorem dX10_readAll_79 : decode mX10_readAll.2.1 79 = .ok (.aload_n 0, 1) := by decide +kernel
theorem dX10_readAll_80 : decode mX10_readAll.2.1 80 = .ok (.iconst 0, 1) := by decide +kernel
theorem dX10_readAll_81 : decode mX10_readAll.2.1 81 = .ok (.putfield 291, 3) := by decide +kernel
theorem dX10_readAll_84 : decode mX10_readAll.2.1 84 = .ok (.aload_n 0, 1) := by decide +kernel
theorem dX10_readAll_85 : decode mX10_readAll.2.1 85 = .ok (.invokevirtual 251, 3) := by decide +kernel
theorem dX10_readAll_88 : decode mX10_readAll.2.1 88 = .ok (.aload_n 0, 1) := by decide +kernel
theorem dX10_readAll_89 : decode mX10_readAll.2.1 89 = .ok (.getfield 197, 3) := by decide +kernel
theorem dX10_readAll_92 : decode mX10_readAll.2.1 92 = .ok (.ifCond .ne 17, 3) := by decide +kernel
theorem dX10_readAll_95 : decode mX10_readAll.2.1 95 = .ok (.aload_n 0, 1) := by decide +kernel
theorem dX10_readAll_96 : decode mX10_readAll.2.1 96 = .ok (.getfield 184, 3) := by decide +kernel
theorem dX10_readAll_99 : decode mX10_readAll.2.1 99 = .ok (.ifCond .eq 10, 3) := by decide +kernel
theorem dX10_readAll_102 : decode mX10_readAll.2.1 102 = .ok (.aload_n 0, 1) := by decide +kernel
theorem dX10_readAll_103 : decode mX10_readAll.2.1 103 = .ok (.invokevirtual 398, 3) := by decide +kernel
theorem dX10_readAll_106 : decode mX10_readAll.2.1 106 = .ok (.goto (-18), 3) := by decide +kernel
theorem dX10_readAll_109 : decode mX10_readAll.2.1 109 = .ok (.return_, 1) := by decide +kernel
theorem bX10_readAll_0 {E : px_E} {d : Nat} {w : pw_W} {Q : Option Value → pw_W → Prop} {t : ct_T} (hw : w.1 = cs t)  
    (k1 : px_Call E d 0 0 mX10_token [.ref 61] (pw_sI (pw_sI (pw_sI (pw_sI (pw_sI (pw_sI (pw_sI (pw_sI (pw_sI (pw_sI (pw_sI (pw_sI (pw_sI (pw_sI (pw_sI (pw_sI w 61 5 (pw_I w 61 1)) 61 1 0) 61 4 0) 61 2 0) 61 3 (-1)) 61 45 0) 61 46 0) 61 47 0) 61 48 40) 61 49 0) 61 50 0) 61 57 0) 61 58 0) 61 59 0) 61 24 0) 61 20 0) (fun v w' => px_W E mX10_readAll (d + 1) 0 0 88 [.ref 61] (v.toList ++ []) w' Q)) :
    px_W E mX10_readAll (d + 1) 0 0 0 [.ref 61] [] w Q := by
  refine px_aload_n dX10_readAll_0 rfl rfl ?_
  refine px_aload_n dX10_readAll_1 rfl rfl ?_
  refine px_getI dX10_readAll_2 fr_10_157 rfl (px_sh1 hw sh_61) ?_
  refine px_putI dX10_readAll_5 fl_10_167 (Or.inl rfl) rfl (px_sh1 hw sh_61) rfl rfl (by omega) ?_
  refine px_aload_n dX10_readAll_8 rfl rfl ?_
  refine px_iconst dX10_readAll_9 ic_0 ?_
  refine px_putI dX10_readAll_10 fl_10_157 (Or.inl rfl) rfl (px_sh1 (hI hw) sh_61) rfl rfl (by omega) ?_
  refine px_aload_n dX10_readAll_13 rfl rfl ?_
  refine px_iconst dX10_readAll_14 ic_0 ?_
  refine px_putI dX10_readAll_15 fl_10_164 (Or.inl rfl) rfl (px_sh1 (hI (hI hw)) sh_61) rfl rfl (by omega) ?_
  refine px_aload_n dX10_readAll_18 rfl rfl ?_
  refine px_iconst dX10_readAll_19 ic_0 ?_
  refine px_putI dX10_readAll_20 fl_10_197 (Or.inl rfl) rfl (px_sh1 (hI (hI (hI hw))) sh_61) rfl rfl (by omega) ?_
  refine px_aload_n dX10_readAll_23 rfl rfl ?_
  refine px_iconst dX10_readAll_24 ic_m1 ?_
  refine px_putI dX10_readAll_25 fl_10_13 (Or.inl rfl) rfl (px_sh1 (hI (hI (hI (hI hw)))) sh_61) rfl rfl (by omega) ?_
  refine px_aload_n dX10_readAll_28 rfl rfl ?_
  refine px_iconst dX10_readAll_29 ic_0 ?_
  refine px_putI dX10_readAll_30 fl_10_272 (Or.inl rfl) rfl (px_sh1 (hI (hI (hI (hI (hI hw))))) sh_61) rfl rfl (by omega) ?_
  refine px_aload_n dX10_readAll_33 rfl rfl ?_
  refine px_iconst dX10_readAll_34 ic_0 ?_
  refine px_putI dX10_readAll_35 fl_10_356 (Or.inl rfl) rfl (px_sh1 (hI (hI (hI (hI (hI (hI hw)))))) sh_61) rfl rfl (by omega) ?_
  refine px_aload_n dX10_readAll_38 rfl rfl ?_
  refine px_iconst dX10_readAll_39 ic_0 ?_
  refine px_putI dX10_readAll_40 fl_10_362 (Or.inl rfl) rfl (px_sh1 (hI (hI (hI (hI (hI (hI (hI hw))))))) sh_61) rfl rfl (by omega) ?_
  refine px_aload_n dX10_readAll_43 rfl rfl ?_
  refine px_bipush dX10_readAll_44 bp_40 ?_
  refine px_putI dX10_readAll_46 fl_10_383 (Or.inl rfl) rfl (px_sh1 (hI (hI (hI (hI (hI (hI (hI (hI hw)))))))) sh_61) rfl rfl (by omega) ?_
  refine px_aload_n dX10_readAll_49 rfl rfl ?_
  refine px_iconst dX10_readAll_50 ic_0 ?_
  refine px_putI dX10_readAll_51 fl_10_389 (Or.inl rfl) rfl (px_sh1 (hI (hI (hI (hI (hI (hI (hI (hI (hI hw))))))))) sh_61) rfl rfl (by omega) ?_
  refine px_aload_n dX10_readAll_54 rfl rfl ?_
  refine px_iconst dX10_readAll_55 ic_0 ?_
  refine px_putI dX10_readAll_56 fl_10_395 (Or.inl rfl) rfl (px_sh1 (hI (hI (hI (hI (hI (hI (hI (hI (hI (hI hw)))))))))) sh_61) rfl rfl (by omega) ?_
  refine px_aload_n dX10_readAll_59 rfl rfl ?_
  refine px_iconst dX10_readAll_60 ic_0 ?_
  refine px_putI dX10_readAll_61 fl_10_380 (Or.inl rfl) rfl (px_sh1 (hI (hI (hI (hI (hI (hI (hI (hI (hI (hI (hI hw))))))))))) sh_61) (by decide) (by decide) (by omega) ?_
  refine px_aload_n dX10_readAll_64 rfl rfl ?_
  refine px_iconst dX10_readAll_65 ic_0 ?_
  refine px_putI dX10_readAll_66 fl_10_386 (Or.inl rfl) rfl (px_sh1 (hI (hI (hI (hI (hI (hI (hI (hI (hI (hI (hI (hI hw)))))))))))) sh_61) (by decide) (by decide) (by omega) ?_
  refine px_aload_n dX10_readAll_69 rfl rfl ?_
  refine px_iconst dX10_readAll_70 ic_0 ?_
  refine px_putI dX10_readAll_71 fl_10_392 (Or.inl rfl) rfl (px_sh1 (hI (hI (hI (hI (hI (hI (hI (hI (hI (hI (hI (hI (hI hw))))))))))))) sh_61) (by decide) (by decide) (by omega) ?_
  refine px_aload_n dX10_readAll_74 rfl rfl ?_
  refine px_iconst dX10_readAll_75 ic_0 ?_
  refine px_putI dX10_readAll_76 fl_10_313 (Or.inl rfl) rfl (px_sh1 (hI (hI (hI (hI (hI (hI (hI (hI (hI (hI (hI (hI (hI (hI hw)))))))))))))) sh_61) (by decide) (by decide) (by omega) ?_
  refine px_aload_n dX10_readAll_79 rfl rfl ?_
  refine px_iconst dX10_readAll_80 ic_0 ?_
  refine px_putI dX10_readAll_81 fl_10_291 (Or.inl rfl) rfl (px_sh1 (hI (hI (hI (hI (hI (hI (hI (hI (hI (hI (hI (hI (hI (hI (hI hw))))))))))))))) sh_61) rfl rfl (by omega) ?_
  refine px_aload_n dX10_readAll_84 rfl rfl ?_
  exact px_callV (As := []) (st := []) (rc := 0) (rs := 0) (mc := 0) (ms := 0) dX10_readAll_85 lk_10_251 (px_sh1 (hI (hI (hI (hI (hI (hI (hI (hI (hI (hI (hI (hI (hI (hI (hI (hI hw)))))))))))))))) sh_61) rfl rfl (Nat.le_of_ble_eq_true rfl) k1
theorem eX10_readAll {E : px_E} {d : Nat} {w : pw_W} {Q : Option Value → pw_W → Prop} {t : ct_T} (hw : w.1 = cs t)  
    (k1 : px_Call E d 0 0 mX10_token [.ref 61] (pw_sI (pw_sI (pw_sI (pw_sI (pw_sI (pw_sI (pw_sI (pw_sI (pw_sI (pw_sI (pw_sI (pw_sI (pw_sI (pw_sI (pw_sI (pw_sI w 61 5 (pw_I w 61 1)) 61 1 0) 61 4 0) 61 2 0) 61 3 (-1)) 61 45 0) 61 46 0) 61 47 0) 61 48 40) 61 49 0) 61 50 0) 61 57 0) 61 58 0) 61 59 0) 61 24 0) 61 20 0) (fun v w' => px_W E mX10_readAll (d + 1) 0 0 88 [.ref 61] (v.toList ++ []) w' Q)) :
    px_Call E (d + 1) 0 0 mX10_readAll [.ref 61] w Q :=
  px_enter (k := 0) (by decide) (Nat.le_of_ble_eq_true rfl) rfl (px_forget (bX10_readAll_0 hw k1) ⟨Or.inr rfl, trivial⟩)
theorem bX10_readAll_88 {E : px_E} {d : Nat} {w : pw_W} {Q : Option Value → pw_W → Prop} {t : ct_T} (hw : w.1 = cs t)  
    (k1 : ¬ (pw_I w 61 2) = 0 → px_W E mX10_readAll (d + 1) 0 0 109 [.null] [] w Q)
    (k2 : (pw_I w 61 2) = 0 → (pw_I w 61 6) = 0 → px_W E mX10_readAll (d + 1) 0 0 109 [.null] [] w Q)
    (k3 : (pw_I w 61 2) = 0 → ¬ (pw_I w 61 6) = 0 → px_Call E d 0 0 mX10_readLine [.ref 61] w (fun v w' => px_W E mX10_readAll (d + 1) 0 0 106 [.ref 61] (v.toList ++ []) w' Q)) :
    px_W E mX10_readAll (d + 1) 0 0 88 [.ref 61] [] w Q := by
  refine px_aload_n dX10_readAll_88 rfl rfl ?_
  refine px_getI dX10_readAll_89 fr_10_197 rfl (px_sh1 hw sh_61) ?_
  refine px_if_ne (tgt := 109) dX10_readAll_92 (by decide) (fun h1 => ?_) (fun h1 => ?_)
  ·
    exact px_forget (k1 h1) ⟨Or.inl rfl, trivial⟩
  ·
    refine px_aload_n dX10_readAll_95 rfl rfl ?_
    refine px_getI dX10_readAll_96 fr_10_184 rfl (px_sh1 hw sh_61) ?_
    refine px_if_eq (tgt := 109) dX10_readAll_99 (by decide) (fun h2 => ?_) (fun h2 => ?_)
    ·
      exact px_forget (k2 h1 h2) ⟨Or.inl rfl, trivial⟩
    ·
      refine px_aload_n dX10_readAll_102 rfl rfl ?_
      exact px_callV (As := []) (st := []) (rc := 0) (rs := 0) (mc := 0) (ms := 0) dX10_readAll_103 lk_10_398 (px_sh1 hw sh_61) rfl rfl (Nat.le_of_ble_eq_true rfl) (k3 h1 h2)
theorem bX10_readAll_106 {E : px_E} {d : Nat} {w : pw_W} {Q : Option Value → pw_W → Prop} {t : ct_T} (hw : w.1 = cs t)  
    (k1 : px_W E mX10_readAll (d + 1) 0 0 88 [.ref 61] [] w Q) :
    px_W E mX10_readAll (d + 1) 0 0 106 [.ref 61] [] w Q := by
  refine px_goto (tgt := 88) dX10_readAll_106 (by decide) ?_
  exact k1
theorem bX10_readAll_109 {E : px_E} {d : Nat} {w : pw_W} {Q : Option Value → pw_W → Prop} {t : ct_T} (hw : w.1 = cs t)  
    (k1 : Q none w) :
    px_W E mX10_readAll (d + 1) 0 0 109 [.null] [] w Q := by
  exact px_return dX10_readAll_109 rfl k1
