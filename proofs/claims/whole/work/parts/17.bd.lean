theorem dX9_feed_0 : decode mX9_feed.2.1 0 = .ok (.aload_n 0, 1) := by decide +kernel
theorem dX9_feed_1 : decode mX9_feed.2.1 1 = .ok (.getfield 13, 3) := by decide +kernel
theorem dX9_feed_4 : decode mX9_feed.2.1 4 = .ok (.bipush 20, 2) := by decide +kernel
theorem dX9_feed_6 : decode mX9_feed.2.1 6 = .ok (.iadd, 1) := by decide +kernel
theorem dX9_feed_7 : decode mX9_feed.2.1 7 = .ok (.sipush 1600, 3) := by decide +kernel
theorem dX9_feed_10 : decode mX9_feed.2.1 10 = .ok (.if_icmp .le 5, 3) := by decide +kernel
theorem dX9_feed_13 : decode mX9_feed.2.1 13 = .ok (.iconst (-1), 1) := by decide +kernel
theorem dX9_feed_14 : decode mX9_feed.2.1 14 = .ok (.ireturn, 1) := by decide +kernel
theorem dX9_feed_15 : decode mX9_feed.2.1 15 = .ok (.aload_n 0, 1) := by decide +kernel
theorem dX9_feed_16 : decode mX9_feed.2.1 16 = .ok (.iload_n 1, 1) := by decide +kernel
theorem dX9_feed_17 : decode mX9_feed.2.1 17 = .ok (.invokevirtual 85, 3) := by decide +kernel
theorem dX9_feed_20 : decode mX9_feed.2.1 20 = .ok (.aload_n 0, 1) := by decide +kernel
theorem dX9_feed_21 : decode mX9_feed.2.1 21 = .ok (.iload_n 2, 1) := by decide +kernel
theorem dX9_feed_22 : decode mX9_feed.2.1 22 = .ok (.invokevirtual 85, 3) := by decide +kernel
theorem dX9_feed_25 : decode mX9_feed.2.1 25 = .ok (.aload_n 0, 1) := by decide +kernel
theorem dX9_feed_26 : decode mX9_feed.2.1 26 = .ok (.iload_n 3, 1) := by decide +kernel
theorem dX9_feed_27 : decode mX9_feed.2.1 27 = .ok (.invokevirtual 85, 3) := by decide +kernel
theorem dX9_feed_30 : decode mX9_feed.2.1 30 = .ok (.aload_n 0, 1) := by decide +kernel
theorem dX9_feed_31 : decode mX9_feed.2.1 31 = .ok (.iload 4, 2) := by decide +kernel
theorem dX9_feed_33 : decode mX9_feed.2.1 33 = .ok (.invokevirtual 85, 3) := by decide +kernel
theorem dX9_feed_36 : decode mX9_feed.2.1 36 = .ok (.aload_n 0, 1) := by decide +kernel
theorem dX9_feed_37 : decode mX9_feed.2.1 37 = .ok (.iload 5, 2) := by decide +kernel
theorem dX9_feed_39 : decode mX9_feed.2.1 39 = .ok (.invokevirtual 85, 3) := by decide +kernel
theorem dX9_feed_42 : decode mX9_feed.2.1 42 = .ok (.aload_n 0, 1) := by decide +kernel
theorem dX9_feed_43 : decode mX9_feed.2.1 43 = .ok (.getfield 13, 3) := by decide +kernel
theorem dX9_feed_46 : decode mX9_feed.2.1 46 = .ok (.ireturn, 1) := by decide +kernel
theorem bX9_feed_0 {E : px_E} {d : Nat} {w : pw_W} {Q : Option Value → pw_W → Prop} {t : ct_T} (hw : w.1 = cs t) {x1 x2 x3 x4 x5 : Int32}  
    (k1 : ((pw_I w 1 1) + 20) ≤ 1600 → px_Call E d 0 0 mX9_putFour [.ref 1, .int x1] w (fun v w' => px_W E mX9_feed (d + 1) 0 0 20 [.ref 1, .null, .int x2, .int x3, .int x4, .int x5] (v.toList ++ []) w' Q))
    (k2 : ¬ ((pw_I w 1 1) + 20) ≤ 1600 → Q (some (.int (-1))) w) :
    px_W E mX9_feed (d + 1) 0 0 0 [.ref 1, .int x1, .int x2, .int x3, .int x4, .int x5] [] w Q := by
  refine px_aload_n dX9_feed_0 rfl rfl ?_
  refine px_getI dX9_feed_1 fr_9_13 rfl (px_sh1 hw sh_1) ?_
  refine px_bipush dX9_feed_4 bp_20 ?_
  refine px_iadd dX9_feed_6 ?_
  refine px_sipush dX9_feed_7 sp_1600 ?_
  refine px_icmp_le (tgt := 15) dX9_feed_10 (by decide) (fun h1 => ?_) (fun h1 => ?_)
  ·
    refine px_aload_n dX9_feed_15 rfl rfl ?_
    refine px_iload_n dX9_feed_16 rfl rfl ?_
    refine px_forget (ls' := [.ref 1, .null, .int x2, .int x3, .int x4, .int x5]) ?_ ⟨Or.inr rfl, Or.inl rfl, Or.inr rfl, Or.inr rfl, Or.inr rfl, Or.inr rfl, trivial⟩
    exact px_callV (As := [.int x1]) (st := []) (rc := 0) (rs := 0) (mc := 0) (ms := 0) dX9_feed_17 lk_9_85 (px_sh1 hw sh_1) rfl rfl (Nat.le_of_ble_eq_true rfl) (k1 h1)
  ·
    refine px_iconst dX9_feed_13 ic_m1 ?_
    exact px_ireturn dX9_feed_14 rfl rfl (k2 h1)
theorem eX9_feed {E : px_E} {d : Nat} {w : pw_W} {Q : Option Value → pw_W → Prop} {t : ct_T} (hw : w.1 = cs t) {x1 x2 x3 x4 x5 : Int32}  
    (k1 : ((pw_I w 1 1) + 20) ≤ 1600 → px_Call E d 0 0 mX9_putFour [.ref 1, .int x1] w (fun v w' => px_W E mX9_feed (d + 1) 0 0 20 [.ref 1, .null, .int x2, .int x3, .int x4, .int x5] (v.toList ++ []) w' Q))
    (k2 : ¬ ((pw_I w 1 1) + 20) ≤ 1600 → Q (some (.int (-1))) w) :
    px_Call E (d + 1) 0 0 mX9_feed [.ref 1, .int x1, .int x2, .int x3, .int x4, .int x5] w Q :=
  px_enter (k := 0) (by decide) (Nat.le_of_ble_eq_true rfl) rfl (px_forget (bX9_feed_0 hw k1 k2) ⟨Or.inr rfl, Or.inr rfl, Or.inr rfl, Or.inr rfl, Or.inr rfl, Or.inr rfl, trivial⟩)
theorem bX9_feed_20 {E : px_E} {d : Nat} {w : pw_W} {Q : Option Value → pw_W → Prop} {t : ct_T} (hw : w.1 = cs t) {x2 x3 x4 x5 : Int32}  
    (k1 : px_Call E d 0 0 mX9_putFour [.ref 1, .int x2] w (fun v w' => px_W E mX9_feed (d + 1) 0 0 25 [.ref 1, .null, .null, .int x3, .int x4, .int x5] (v.toList ++ []) w' Q)) :
    px_W E mX9_feed (d + 1) 0 0 20 [.ref 1, .null, .int x2, .int x3, .int x4, .int x5] [] w Q := by
  refine px_aload_n dX9_feed_20 rfl rfl ?_
  refine px_iload_n dX9_feed_21 rfl rfl ?_
  refine px_forget (ls' := [.ref 1, .null, .null, .int x3, .int x4, .int x5]) ?_ ⟨Or.inr rfl, Or.inl rfl, Or.inl rfl, Or.inr rfl, Or.inr rfl, Or.inr rfl, trivial⟩
  exact px_callV (As := [.int x2]) (st := []) (rc := 0) (rs := 0) (mc := 0) (ms := 0) dX9_feed_22 lk_9_85 (px_sh1 hw sh_1) rfl rfl (Nat.le_of_ble_eq_true rfl) k1
theorem bX9_feed_25 {E : px_E} {d : Nat} {w : pw_W} {Q : Option Value → pw_W → Prop} {t : ct_T} (hw : w.1 = cs t) {x3 x4 x5 : Int32}  
    (k1 : px_Call E d 0 0 mX9_putFour [.ref 1, .int x3] w (fun v w' => px_W E mX9_feed (d + 1) 0 0 30 [.ref 1, .null, .null, .null, .int x4, .int x5] (v.toList ++ []) w' Q)) :
    px_W E mX9_feed (d + 1) 0 0 25 [.ref 1, .null, .null, .int x3, .int x4, .int x5] [] w Q := by
  refine px_aload_n dX9_feed_25 rfl rfl ?_
  refine px_iload_n dX9_feed_26 rfl rfl ?_
  refine px_forget (ls' := [.ref 1, .null, .null, .null, .int x4, .int x5]) ?_ ⟨Or.inr rfl, Or.inl rfl, Or.inl rfl, Or.inl rfl, Or.inr rfl, Or.inr rfl, trivial⟩
  exact px_callV (As := [.int x3]) (st := []) (rc := 0) (rs := 0) (mc := 0) (ms := 0) dX9_feed_27 lk_9_85 (px_sh1 hw sh_1) rfl rfl (Nat.le_of_ble_eq_true rfl) k1
theorem bX9_feed_30 {E : px_E} {d : Nat} {w : pw_W} {Q : Option Value → pw_W → Prop} {t : ct_T} (hw : w.1 = cs t) {x4 x5 : Int32}  
    (k1 : px_Call E d 0 0 mX9_putFour [.ref 1, .int x4] w (fun v w' => px_W E mX9_feed (d + 1) 0 0 36 [.ref 1, .null, .null, .null, .null, .int x5] (v.toList ++ []) w' Q)) :
    px_W E mX9_feed (d + 1) 0 0 30 [.ref 1, .null, .null, .null, .int x4, .int x5] [] w Q := by
  refine px_aload_n dX9_feed_30 rfl rfl ?_
  refine px_iload dX9_feed_31 rfl ?_
  refine px_forget (ls' := [.ref 1, .null, .null, .null, .null, .int x5]) ?_ ⟨Or.inr rfl, Or.inl rfl, Or.inl rfl, Or.inl rfl, Or.inl rfl, Or.inr rfl, trivial⟩
  exact px_callV (As := [.int x4]) (st := []) (rc := 0) (rs := 0) (mc := 0) (ms := 0) dX9_feed_33 lk_9_85 (px_sh1 hw sh_1) rfl rfl (Nat.le_of_ble_eq_true rfl) k1
theorem bX9_feed_36 {E : px_E} {d : Nat} {w : pw_W} {Q : Option Value → pw_W → Prop} {t : ct_T} (hw : w.1 = cs t) {x5 : Int32}  
    (k1 : px_Call E d 0 0 mX9_putFour [.ref 1, .int x5] w (fun v w' => px_W E mX9_feed (d + 1) 0 0 42 [.ref 1, .null, .null, .null, .null, .null] (v.toList ++ []) w' Q)) :
    px_W E mX9_feed (d + 1) 0 0 36 [.ref 1, .null, .null, .null, .null, .int x5] [] w Q := by
  refine px_aload_n dX9_feed_36 rfl rfl ?_
  refine px_iload dX9_feed_37 rfl ?_
  refine px_forget (ls' := [.ref 1, .null, .null, .null, .null, .null]) ?_ ⟨Or.inr rfl, Or.inl rfl, Or.inl rfl, Or.inl rfl, Or.inl rfl, Or.inl rfl, trivial⟩
  exact px_callV (As := [.int x5]) (st := []) (rc := 0) (rs := 0) (mc := 0) (ms := 0) dX9_feed_39 lk_9_85 (px_sh1 hw sh_1) rfl rfl (Nat.le_of_ble_eq_true rfl) k1
theorem bX9_feed_42 {E : px_E} {d : Nat} {w : pw_W} {Q : Option Value → pw_W → Prop} {t : ct_T} (hw : w.1 = cs t)  
    (k1 : Q (some (.int (pw_I w 1 1))) w) :
    px_W E mX9_feed (d + 1) 0 0 42 [.ref 1, .null, .null, .null, .null, .null] [] w Q := by
  refine px_aload_n dX9_feed_42 rfl rfl ?_
  refine px_getI dX9_feed_43 fr_9_13 rfl (px_sh1 hw sh_1) ?_
  exact px_ireturn dX9_feed_46 rfl rfl k1
theorem dX9_end_0 : decode mX9_end.2.1 0 = .ok (.iload_n 1, 1) := by decide +kernel
theorem dX9_end_1 : decode mX9_end.2.1 1 = .ok (.ifCond .lt 11, 3) := by decide +kernel
theorem dX9_end_4 : decode mX9_end.2.1 4 = .ok (.iload_n 1, 1) := by decide +kernel
theorem dX9_end_5 : decode mX9_end.2.1 5 = .ok (.aload_n 0, 1) := by decide +kernel
theorem dX9_end_6 : decode mX9_end.2.1 6 = .ok (.getfield 13, 3) := by decide +kernel
theorem dX9_end_9 : decode mX9_end.2.1 9 = .ok (.if_icmp .le 5, 3) := by decide +kernel
theorem dX9_end_12 : decode mX9_end.2.1 12 = .ok (.iconst (-1), 1) := by decide +kernel
theorem dX9_end_13 : decode mX9_end.2.1 13 = .ok (.ireturn, 1) := by decide +kernel
theorem dX9_end_14 : decode mX9_end.2.1 14 = .ok (.aload_n 0, 1) := by decide +kernel
theorem dX9_end_15 : decode mX9_end.2.1 15 = .ok (.iload_n 1, 1) := by decide +kernel
theorem dX9_end_16 : decode mX9_end.2.1 16 = .ok (.putfield 13, 3) := by decide +kernel
theorem dX9_end_19 : decode mX9_end.2.1 19 = .ok (.iload_n 1, 1) := by decide +kernel
theorem dX9_end_20 : decode mX9_end.2.1 20 = .ok (.ireturn, 1) := by decide +kernel
theorem bX9_end_0 {E : px_E} {d : Nat} {w : pw_W} {Q : Option Value → pw_W → Prop} {t : ct_T} (hw : w.1 = cs t) {x1 : Int32}  
    (k1 : x1 < 0 → px_W E mX9_end (d + 1) 0 0 12 [.null, .null] [] w Q)
    (k2 : ¬ x1 < 0 → x1 ≤ (pw_I w 1 1) → Q (some (.int x1)) (pw_sI w 1 1 x1))
    (k3 : ¬ x1 < 0 → ¬ x1 ≤ (pw_I w 1 1) → px_W E mX9_end (d + 1) 0 0 12 [.null, .null] [] w Q) :
    px_W E mX9_end (d + 1) 0 0 0 [.ref 1, .int x1] [] w Q := by
  refine px_iload_n dX9_end_0 rfl rfl ?_
  refine px_if_lt (tgt := 12) dX9_end_1 (by decide) (fun h1 => ?_) (fun h1 => ?_)
  ·
    exact px_forget (k1 h1) ⟨Or.inl rfl, Or.inl rfl, trivial⟩
  ·
    refine px_iload_n dX9_end_4 rfl rfl ?_
    refine px_aload_n dX9_end_5 rfl rfl ?_
    refine px_getI dX9_end_6 fr_9_13 rfl (px_sh1 hw sh_1) ?_
    refine px_icmp_le (tgt := 14) dX9_end_9 (by decide) (fun h2 => ?_) (fun h2 => ?_)
    ·
      refine px_aload_n dX9_end_14 rfl rfl ?_
      refine px_iload_n dX9_end_15 rfl rfl ?_
      refine px_putI dX9_end_16 fl_9_13 (Or.inl rfl) rfl (px_sh1 hw sh_1) rfl rfl (by omega) ?_
      refine px_iload_n dX9_end_19 rfl rfl ?_
      exact px_ireturn dX9_end_20 rfl rfl (k2 h1 h2)
    ·
      exact px_forget (k3 h1 h2) ⟨Or.inl rfl, Or.inl rfl, trivial⟩
theorem eX9_end {E : px_E} {d : Nat} {w : pw_W} {Q : Option Value → pw_W → Prop} {t : ct_T} (hw : w.1 = cs t) {x1 : Int32}  
    (k1 : x1 < 0 → px_W E mX9_end (d + 1) 0 0 12 [.null, .null] [] w Q)
    (k2 : ¬ x1 < 0 → x1 ≤ (pw_I w 1 1) → Q (some (.int x1)) (pw_sI w 1 1 x1))
    (k3 : ¬ x1 < 0 → ¬ x1 ≤ (pw_I w 1 1) → px_W E mX9_end (d + 1) 0 0 12 [.null, .null] [] w Q) :
    px_Call E (d + 1) 0 0 mX9_end [.ref 1, .int x1] w Q :=
  px_enter (k := 0) (by decide) (Nat.le_of_ble_eq_true rfl) rfl (px_forget (bX9_end_0 hw k1 k2 k3) ⟨Or.inr rfl, Or.inr rfl, trivial⟩)
theorem bX9_end_12 {E : px_E} {d : Nat} {w : pw_W} {Q : Option Value → pw_W → Prop} {t : ct_T} (hw : w.1 = cs t)  
    (k1 : Q (some (.int (-1))) w) :
    px_W E mX9_end (d + 1) 0 0 12 [.null, .null] [] w Q := by
  refine px_iconst dX9_end_12 ic_m1 ?_
  exact px_ireturn dX9_end_13 rfl rfl k1
theorem dX9_hamlet_0 : decode mX9_hamlet.2.1 0 = .ok (.aload_n 0, 1) := by decide +kernel
theorem dX9_hamlet_1 : decode mX9_hamlet.2.1 1 = .ok (.getfield 33, 3) := by decide +kernel
theorem dX9_hamlet_4 : decode mX9_hamlet.2.1 4 = .ok (.aload_n 0, 1) := by decide +kernel
theorem dX9_hamlet_5 : decode mX9_hamlet.2.1 5 = .ok (.getfield 9, 3) := by decide +kernel
theorem dX9_hamlet_8 : decode mX9_hamlet.2.1 8 = .ok (.aload_n 0, 1) := by decide +kernel
theorem dX9_hamlet_9 : decode mX9_hamlet.2.1 9 = .ok (.getfield 13, 3) := by decide +kernel
theorem dX9_hamlet_12 : decode mX9_hamlet.2.1 12 = .ok (.invokevirtual 89, 3) := by decide +kernel
theorem dX9_hamlet_15 : decode mX9_hamlet.2.1 15 = .ok (.istore_n 1, 1) := by decide +kernel
theorem dX9_hamlet_16 : decode mX9_hamlet.2.1 16 = .ok (.aload_n 0, 1) := by decide +kernel
theorem dX9_hamlet_17 : decode mX9_hamlet.2.1 17 = .ok (.iconst 0, 1) := by decide +kernel
theorem dX9_hamlet_18 : decode mX9_hamlet.2.1 18 = .ok (.putfield 13, 3) := by decide +kernel
theorem dX9_hamlet_21 : decode mX9_hamlet.2.1 21 = .ok (.aload_n 0, 1) := by decide +kernel
theorem dX9_hamlet_22 : decode mX9_hamlet.2.1 22 = .ok (.aload_n 0, 1) := by decide +kernel
theorem dX9_hamlet_23 : decode mX9_hamlet.2.1 23 = .ok (.getfield 33, 3) := by decide +kernel
theorem dX9_hamlet_26 : decode mX9_hamlet.2.1 26 = .ok (.getfield 93, 3) := by decide +kernel
theorem dX9_hamlet_29 : decode mX9_hamlet.2.1 29 = .ok (.putfield 24, 3) := by decide +kernel
theorem dX9_hamlet_32 : decode mX9_hamlet.2.1 32 = .ok (.aload_n 0, 1) := by decide +kernel
theorem dX9_hamlet_33 : decode mX9_hamlet.2.1 33 = .ok (.aload_n 0, 1) := by decide +kernel
theorem dX9_hamlet_34 : decode mX9_hamlet.2.1 34 = .ok (.getfield 33, 3) := by decide +kernel
theorem dX9_hamlet_37 : decode mX9_hamlet.2.1 37 = .ok (.getfield 94, 3) := by decide +kernel
theorem dX9_hamlet_40 : decode mX9_hamlet.2.1 40 = .ok (.putfield 27, 3) := by decide +kernel
theorem dX9_hamlet_43 : decode mX9_hamlet.2.1 43 = .ok (.iload_n 1, 1) := by decide +kernel
theorem dX9_hamlet_44 : decode mX9_hamlet.2.1 44 = .ok (.ifCond .ne 5, 3) := by decide +kernel
theorem dX9_hamlet_47 : decode mX9_hamlet.2.1 47 = .ok (.iconst (-1), 1) := by decide +kernel
theorem dX9_hamlet_48 : decode mX9_hamlet.2.1 48 = .ok (.ireturn, 1) := by decide +kernel
theorem dX9_hamlet_49 : decode mX9_hamlet.2.1 49 = .ok (.aload_n 0, 1) := by decide +kernel
theorem dX9_hamlet_50 : decode mX9_hamlet.2.1 50 = .ok (.aload_n 0, 1) := by decide +kernel
theorem dX9_hamlet_51 : decode mX9_hamlet.2.1 51 = .ok (.getfield 33, 3) := by decide +kernel
theorem dX9_hamlet_54 : decode mX9_hamlet.2.1 54 = .ok (.aload_n 0, 1) := by decide +kernel
theorem dX9_hamlet_55 : decode mX9_hamlet.2.1 55 = .ok (.getfield 20, 3) := by decide +kernel
theorem dX9_hamlet_58 : decode mX9_hamlet.2.1 58 = .ok (.invokevirtual 95, 3) := by decide +kernel
theorem dX9_hamlet_61 : decode mX9_hamlet.2.1 61 = .ok (.putfield 20, 3) := by decide +kernel
theorem dX9_hamlet_64 : decode mX9_hamlet.2.1 64 = .ok (.aload_n 0, 1) := by decide +kernel
theorem dX9_hamlet_65 : decode mX9_hamlet.2.1 65 = .ok (.getfield 40, 3) := by decide +kernel
theorem dX9_hamlet_68 : decode mX9_hamlet.2.1 68 = .ok (.aload_n 0, 1) := by decide +kernel
theorem dX9_hamlet_69 : decode mX9_hamlet.2.1 69 = .ok (.getfield 20, 3) := by decide +kernel
theorem dX9_hamlet_72 : decode mX9_hamlet.2.1 72 = .ok (.invokevirtual 99, 3) := by decide +kernel
theorem dX9_hamlet_75 : decode mX9_hamlet.2.1 75 = .ok (.aload_n 0, 1) := by decide +kernel
theorem dX9_hamlet_76 : decode mX9_hamlet.2.1 76 = .ok (.getfield 47, 3) := by decide +kernel
theorem dX9_hamlet_79 : decode mX9_hamlet.2.1 79 = .ok (.aload_n 0, 1) := by decide +kernel
theorem dX9_hamlet_80 : decode mX9_hamlet.2.1 80 = .ok (.getfield 40, 3) := by decide +kernel
theorem dX9_hamlet_83 : decode mX9_hamlet.2.1 83 = .ok (.invokevirtual 103, 3) := by decide +kernel
theorem dX9_hamlet_86 : decode mX9_hamlet.2.1 86 = .ok (.aload_n 0, 1) := by decide +kernel
theorem dX9_hamlet_87 : decode mX9_hamlet.2.1 87 = .ok (.getfield 75, 3) := by decide +kernel
theorem dX9_hamlet_90 : decode mX9_hamlet.2.1 90 = .ok (.invokevirtual 107, 3) := by decide +kernel
theorem dX9_hamlet_93 : decode mX9_hamlet.2.1 93 = .ok (.aload_n 0, 1) := by decide +kernel
theorem dX9_hamlet_94 : decode mX9_hamlet.2.1 94 = .ok (.iconst 0, 1) := by decide +kernel
theorem dX9_hamlet_95 : decode mX9_hamlet.2.1 95 = .ok (.putfield 82, 3) := by decide +kernel
theorem dX9_hamlet_98 : decode mX9_hamlet.2.1 98 = .ok (.aload_n 0, 1) := by decide +kernel
theorem dX9_hamlet_99 : decode mX9_hamlet.2.1 99 = .ok (.iconst 0, 1) := by decide +kernel
theorem dX9_hamlet_100 : decode mX9_hamlet.2.1 100 = .ok (.putfield 55, 3) := by decide +kernel
theorem dX9_hamlet_103 : decode mX9_hamlet.2.1 103 = .ok (.aload_n 0, 1) := by decide +kernel
theorem dX9_hamlet_104 : decode mX9_hamlet.2.1 104 = .ok (.getfield 20, 3) := by decide +kernel
theorem dX9_hamlet_107 : decode mX9_hamlet.2.1 107 = .ok (.getfield 110, 3) := by decide +kernel
theorem dX9_hamlet_110 : decode mX9_hamlet.2.1 110 = .ok (.ireturn, 1) := by decide +kernel
theorem bX9_hamlet_0 {E : px_E} {d : Nat} {w : pw_W} {Q : Option Value → pw_W → Prop} {t : ct_T} (hw : w.1 = cs t) (ht1 : is_Hamlet t.1) 
    (k1 : px_Call E d 0 0 mX5_read [.ref 16, .ref 2, .int (pw_I w 1 1)] w (fun v w' => px_W E mX9_hamlet (d + 1) 0 0 15 [.ref 1, .null] (v.toList ++ []) w' Q)) :
    px_W E mX9_hamlet (d + 1) 0 0 0 [.ref 1, .null] [] w Q := by
  refine px_aload_n dX9_hamlet_0 rfl rfl ?_
  refine px_getR (v := 16) dX9_hamlet_1 fr_9_33 rfl (px_sh1 hw sh_1) (px_rf hw rf_1_5) (by decide) ?_
  refine px_aload_n dX9_hamlet_4 rfl rfl ?_
  refine px_getR (v := 2) dX9_hamlet_5 fr_9_9 rfl (px_sh1 hw sh_1) (px_rf hw rf_1_0) (by decide) ?_
  refine px_aload_n dX9_hamlet_8 rfl rfl ?_
  refine px_getI dX9_hamlet_9 fr_9_13 rfl (px_sh1 hw sh_1) ?_
  exact px_callV (As := [.ref 2, .int (pw_I w 1 1)]) (st := []) (rc := 0) (rs := 0) (mc := 0) (ms := 0) dX9_hamlet_12 lk_9_89 (px_sh1 hw sh_16) rfl rfl (Nat.le_of_ble_eq_true rfl) k1
theorem eX9_hamlet {E : px_E} {d : Nat} {w : pw_W} {Q : Option Value → pw_W → Prop} {t : ct_T} (hw : w.1 = cs t) (ht1 : is_Hamlet t.1) 
    (k1 : px_Call E d 0 0 mX5_read [.ref 16, .ref 2, .int (pw_I w 1 1)] w (fun v w' => px_W E mX9_hamlet (d + 1) 0 0 15 [.ref 1, .null] (v.toList ++ []) w' Q)) :
    px_Call E (d + 1) 0 0 mX9_hamlet [.ref 1] w Q :=
  px_enter (k := 1) (by decide) (Nat.le_of_ble_eq_true rfl) rfl (px_forget (bX9_hamlet_0 hw ht1 k1) ⟨Or.inr rfl, Or.inl rfl, trivial⟩)
theorem bX9_hamlet_15 {E : px_E} {d : Nat} {w : pw_W} {Q : Option Value → pw_W → Prop} {t : ct_T} (hw : w.1 = cs t) {y0 : Int32} (ht1 : is_Hamlet t.1) 
    (k1 : ¬ y0 = 0 → px_Call E d 0 0 mX5_swapDraft [.ref 16, .ref t.1] (pw_sI (pw_sI (pw_sI w 1 1 0) 1 3 (pw_I w 16 5)) 1 4 (pw_I w 16 6)) (fun v w' => px_W E mX9_hamlet (d + 1) 0 0 61 [.ref 1, .null] (v.toList ++ [.ref 1]) w' Q))
    (k2 : y0 = 0 → Q (some (.int (-1))) (pw_sI (pw_sI (pw_sI w 1 1 0) 1 3 (pw_I w 16 5)) 1 4 (pw_I w 16 6))) :
    px_W E mX9_hamlet (d + 1) 0 0 15 [.ref 1, .null] [.int y0] w Q := by
  refine px_istore_n (ls' := [.ref 1, .int y0]) dX9_hamlet_15 rfl ⟨by decide, rfl⟩ rfl ?_
  refine px_aload_n dX9_hamlet_16 rfl rfl ?_
  refine px_iconst dX9_hamlet_17 ic_0 ?_
  refine px_putI dX9_hamlet_18 fl_9_13 (Or.inl rfl) rfl (px_sh1 hw sh_1) rfl rfl (by omega) ?_
  refine px_aload_n dX9_hamlet_21 rfl rfl ?_
  refine px_aload_n dX9_hamlet_22 rfl rfl ?_
  refine px_getR (v := 16) dX9_hamlet_23 fr_9_33 rfl (px_sh1 (hI hw) sh_1) (px_rf (hI hw) rf_1_5) (by decide) ?_
  refine px_getIv (v := (pw_I w 16 5)) dX9_hamlet_26 fr_9_93 rfl (px_sh1 (hI hw) sh_16) rfl ?_
  refine px_putI dX9_hamlet_29 fl_9_24 (Or.inl rfl) rfl (px_sh1 (hI hw) sh_1) rfl rfl (by omega) ?_
  refine px_aload_n dX9_hamlet_32 rfl rfl ?_
  refine px_aload_n dX9_hamlet_33 rfl rfl ?_
  refine px_getR (v := 16) dX9_hamlet_34 fr_9_33 rfl (px_sh1 (hI (hI hw)) sh_1) (px_rf (hI (hI hw)) rf_1_5) (by decide) ?_
  refine px_getIv (v := (pw_I w 16 6)) dX9_hamlet_37 fr_9_94 rfl (px_sh1 (hI (hI hw)) sh_16) rfl ?_
  refine px_putI dX9_hamlet_40 fl_9_27 (Or.inl rfl) rfl (px_sh1 (hI (hI hw)) sh_1) rfl rfl (by omega) ?_
  refine px_iload_n dX9_hamlet_43 rfl rfl ?_
  refine px_if_ne (tgt := 49) dX9_hamlet_44 (by decide) (fun h1 => ?_) (fun h1 => ?_)
  ·
    refine px_aload_n dX9_hamlet_49 rfl rfl ?_
    refine px_aload_n dX9_hamlet_50 rfl rfl ?_
    refine px_getR (v := 16) dX9_hamlet_51 fr_9_33 rfl (px_sh1 (hI (hI (hI hw))) sh_1) (px_rf (hI (hI (hI hw))) rf_1_5) (by decide) ?_
    refine px_aload_n dX9_hamlet_54 rfl rfl ?_
    refine px_getR (v := t.1) dX9_hamlet_55 fr_9_20 rfl (px_sh1 (hI (hI (hI hw))) sh_1) (px_rf (hI (hI (hI hw))) rf_1_2) ht1.ne ?_
    refine px_forget (ls' := [.ref 1, .null]) ?_ ⟨Or.inr rfl, Or.inl rfl, trivial⟩
    exact px_callV (As := [.ref t.1]) (st := [.ref 1]) (rc := 0) (rs := 0) (mc := 0) (ms := 0) dX9_hamlet_58 lk_9_95 (px_sh1 (hI (hI (hI hw))) sh_16) rfl rfl (Nat.le_of_ble_eq_true rfl) (k1 h1)
  ·
    refine px_iconst dX9_hamlet_47 ic_m1 ?_
    exact px_ireturn dX9_hamlet_48 rfl rfl (k2 h1)
theorem bX9_hamlet_61 {E : px_E} {d : Nat} {w : pw_W} {Q : Option Value → pw_W → Prop} {t : ct_T} (hw : w.1 = cs t) (ht1 : is_Hamlet t.1) {q0 : Nat} (hq0 : is_Hamlet q0) 
    (k1 : px_Call E d 0 0 mX8_setAsTold [.ref 35, .ref q0] (pw_sR w 1 2 q0) (fun v w' => px_W E mX9_hamlet (d + 1) 0 0 75 [.ref 1, .null] (v.toList ++ []) w' Q)) :
    px_W E mX9_hamlet (d + 1) 0 0 61 [.ref 1, .null] [.ref q0, .ref 1] w Q := by
  refine px_putR dX9_hamlet_61 fl_9_20 (Or.inl rfl) rfl (px_sh1 hw sh_1) hq0.ne (by omega) ?_
  refine px_aload_n dX9_hamlet_64 rfl rfl ?_
  refine px_getR (v := 35) dX9_hamlet_65 fr_9_40 rfl (px_sh1 (cs_sR_1_2 hw) sh_1) (px_rf (cs_sR_1_2 hw) rf_1_6) (by decide) ?_
  refine px_aload_n dX9_hamlet_68 rfl rfl ?_
  refine px_getR (v := q0) dX9_hamlet_69 fr_9_20 rfl (px_sh1 (cs_sR_1_2 hw) sh_1) (px_rf (cs_sR_1_2 hw) rf_1_2) hq0.ne ?_
  exact px_callV (As := [.ref q0]) (st := []) (rc := 0) (rs := 0) (mc := 0) (ms := 0) dX9_hamlet_72 lk_9_99 (px_sh1 (cs_sR_1_2 hw) sh_35) rfl rfl (Nat.le_of_ble_eq_true rfl) k1
theorem bX9_hamlet_75 {E : px_E} {d : Nat} {w : pw_W} {Q : Option Value → pw_W → Prop} {t : ct_T} (hw : w.1 = cs t) (ht1 : is_Hamlet t.1) 
    (k1 : px_Call E d 0 0 mX3_restart [.ref 38, .ref 35] w (fun v w' => px_W E mX9_hamlet (d + 1) 0 0 86 [.ref 1, .null] (v.toList ++ []) w' Q)) :
    px_W E mX9_hamlet (d + 1) 0 0 75 [.ref 1, .null] [] w Q := by
  refine px_aload_n dX9_hamlet_75 rfl rfl ?_
  refine px_getR (v := 38) dX9_hamlet_76 fr_9_47 rfl (px_sh1 hw sh_1) (px_rf hw rf_1_7) (by decide) ?_
  refine px_aload_n dX9_hamlet_79 rfl rfl ?_
  refine px_getR (v := 35) dX9_hamlet_80 fr_9_40 rfl (px_sh1 hw sh_1) (px_rf hw rf_1_6) (by decide) ?_
  exact px_callV (As := [.ref 35]) (st := []) (rc := 0) (rs := 0) (mc := 0) (ms := 0) dX9_hamlet_83 lk_9_103 (px_sh1 hw sh_38) rfl rfl (Nat.le_of_ble_eq_true rfl) k1
theorem bX9_hamlet_86 {E : px_E} {d : Nat} {w : pw_W} {Q : Option Value → pw_W → Prop} {t : ct_T} (hw : w.1 = cs t) (ht1 : is_Hamlet t.1) 
    (k1 : px_Call E d 0 0 mX7_forget [.ref 48] w (fun v w' => px_W E mX9_hamlet (d + 1) 0 0 93 [.ref 1, .null] (v.toList ++ []) w' Q)) :
    px_W E mX9_hamlet (d + 1) 0 0 86 [.ref 1, .null] [] w Q := by
  refine px_aload_n dX9_hamlet_86 rfl rfl ?_
  refine px_getR (v := 48) dX9_hamlet_87 fr_9_75 rfl (px_sh1 hw sh_1) (px_rf hw rf_1_12) (by decide) ?_
  exact px_callV (As := []) (st := []) (rc := 0) (rs := 0) (mc := 0) (ms := 0) dX9_hamlet_90 lk_9_107 (px_sh1 hw sh_48) rfl rfl (Nat.le_of_ble_eq_true rfl) k1
theorem bX9_hamlet_93 {E : px_E} {d : Nat} {w : pw_W} {Q : Option Value → pw_W → Prop} {t : ct_T} (hw : w.1 = cs t) (ht1 : is_Hamlet t.1) 
    (k1 : Q (some (.int (pw_I (pw_sI (pw_sI w 1 14 0) 1 9 0) t.1 0))) (pw_sI (pw_sI w 1 14 0) 1 9 0)) :
    px_W E mX9_hamlet (d + 1) 0 0 93 [.ref 1, .null] [] w Q := by
  refine px_aload_n dX9_hamlet_93 rfl rfl ?_
  refine px_iconst dX9_hamlet_94 ic_0 ?_
  refine px_putI dX9_hamlet_95 fl_9_82 (Or.inl rfl) rfl (px_sh1 hw sh_1) rfl rfl (by omega) ?_
  refine px_aload_n dX9_hamlet_98 rfl rfl ?_
  refine px_iconst dX9_hamlet_99 ic_0 ?_
  refine px_putI dX9_hamlet_100 fl_9_55 (Or.inl rfl) rfl (px_sh1 (hI hw) sh_1) rfl rfl (by omega) ?_
  refine px_aload_n dX9_hamlet_103 rfl rfl ?_
  refine px_getR (v := t.1) dX9_hamlet_104 fr_9_20 rfl (px_sh1 (hI (hI hw)) sh_1) (px_rf (hI (hI hw)) rf_1_2) ht1.ne ?_
  refine px_getI dX9_hamlet_107 fr_9_110 rfl (px_sh1 (hI (hI hw)) ht1.sh) ?_
  exact px_ireturn dX9_hamlet_110 rfl rfl k1
theorem dX9_fault_0 : decode mX9_fault.2.1 0 = .ok (.iload_n 1, 1) := by decide +kernel
theorem dX9_fault_1 : decode mX9_fault.2.1 1 = .ok (.lookupswitch 37 #[(0, 27), (1, 32)], 27) := by decide +kernel
theorem dX9_fault_28 : decode mX9_fault.2.1 28 = .ok (.aload_n 0, 1) := by decide +kernel
theorem dX9_fault_29 : decode mX9_fault.2.1 29 = .ok (.getfield 24, 3) := by decide +kernel
theorem dX9_fault_32 : decode mX9_fault.2.1 32 = .ok (.ireturn, 1) := by decide +kernel
theorem dX9_fault_33 : decode mX9_fault.2.1 33 = .ok (.aload_n 0, 1) := by decide +kernel
theorem dX9_fault_34 : decode mX9_fault.2.1 34 = .ok (.getfield 27, 3) := by decide +kernel
theorem dX9_fault_37 : decode mX9_fault.2.1 37 = .ok (.ireturn, 1) := by decide +kernel
theorem dX9_fault_38 : decode mX9_fault.2.1 38 = .ok (.iconst (-1), 1) := by decide +kernel
theorem dX9_fault_39 : decode mX9_fault.2.1 39 = .ok (.ireturn, 1) := by decide +kernel
theorem bX9_fault_0 {E : px_E} {d : Nat} {w : pw_W} {Q : Option Value → pw_W → Prop} {t : ct_T} (hw : w.1 = cs t) {x1 : Int32}  
    (k1 : x1 = 0 → Q (some (.int (pw_I w 1 3))) w)
    (k2 : ¬ x1 = 0 → x1 = 1 → Q (some (.int (pw_I w 1 4))) w)
    (k3 : ¬ x1 = 0 → ¬ x1 = 1 → Q (some (.int (-1))) w) :
    px_W E mX9_fault (d + 1) 0 0 0 [.ref 1, .int x1] [] w Q := by
  refine px_iload_n dX9_fault_0 rfl rfl ?_
  by_cases h1 : x1 = 0
  ·
    refine px_lookup (off := 27) (tgt := 28) dX9_fault_1 (by decide) (by rw [h1]; decide) (by decide) ?_
    refine px_aload_n dX9_fault_28 rfl rfl ?_
    refine px_getI dX9_fault_29 fr_9_24 rfl (px_sh1 hw sh_1) ?_
    exact px_ireturn dX9_fault_32 rfl rfl (k1 h1)
  by_cases h2 : x1 = 1
  ·
    refine px_lookup (off := 32) (tgt := 33) dX9_fault_1 (by decide) (by rw [h2]; decide) (by decide) ?_
    refine px_aload_n dX9_fault_33 rfl rfl ?_
    refine px_getI dX9_fault_34 fr_9_27 rfl (px_sh1 hw sh_1) ?_
    exact px_ireturn dX9_fault_37 rfl rfl (k2 h1 h2)
  refine px_lookup (off := 37) (tgt := 38) dX9_fault_1 (by decide) (by simp only []; rw [lv_osw h1 (by decide), lv_osw h2 (by decide)]; rfl) (by decide) ?_
  refine px_iconst dX9_fault_38 ic_m1 ?_
  exact px_ireturn dX9_fault_39 rfl rfl (k3 h1 h2)
theorem eX9_fault {E : px_E} {d : Nat} {w : pw_W} {Q : Option Value → pw_W → Prop} {t : ct_T} (hw : w.1 = cs t) {x1 : Int32}  
    (k1 : x1 = 0 → Q (some (.int (pw_I w 1 3))) w)
    (k2 : ¬ x1 = 0 → x1 = 1 → Q (some (.int (pw_I w 1 4))) w)
    (k3 : ¬ x1 = 0 → ¬ x1 = 1 → Q (some (.int (-1))) w) :
    px_Call E (d + 1) 0 0 mX9_fault [.ref 1, .int x1] w Q :=
  px_enter (k := 0) (by decide) (Nat.le_of_ble_eq_true rfl) rfl (px_forget (bX9_fault_0 hw k1 k2 k3) ⟨Or.inr rfl, Or.inr rfl, trivial⟩)
theorem dX9_person_0 : decode mX9_person.2.1 0 = .ok (.aload_n 0, 1) := by decide +kernel
theorem dX9_person_1 : decode mX9_person.2.1 1 = .ok (.iload_n 1, 1) := by decide +kernel
theorem dX9_person_2 : decode mX9_person.2.1 2 = .ok (.invokevirtual 113, 3) := by decide +kernel
theorem dX9_person_5 : decode mX9_person.2.1 5 = .ok (.ifCond .ne 5, 3) := by decide +kernel
theorem dX9_person_8 : decode mX9_person.2.1 8 = .ok (.iconst (-1), 1) := by decide +kernel
theorem dX9_person_9 : decode mX9_person.2.1 9 = .ok (.ireturn, 1) := by decide +kernel
theorem dX9_person_10 : decode mX9_person.2.1 10 = .ok (.iload_n 2, 1) := by decide +kernel
theorem dX9_person_11 : decode mX9_person.2.1 11 = .ok (.tableswitch 80 0 3 #[29, 39, 49, 59], 29) := by decide +kernel
theorem dX9_person_40 : decode mX9_person.2.1 40 = .ok (.aload_n 0, 1) := by decide +kernel
theorem dX9_person_41 : decode mX9_person.2.1 41 = .ok (.getfield 40, 3) := by decide +kernel
theorem dX9_person_44 : decode mX9_person.2.1 44 = .ok (.getfield 117, 3) := by decide +kernel
theorem dX9_person_47 : decode mX9_person.2.1 47 = .ok (.iload_n 1, 1) := by decide +kernel
theorem dX9_person_48 : decode mX9_person.2.1 48 = .ok (.iaload, 1) := by decide +kernel
theorem dX9_person_49 : decode mX9_person.2.1 49 = .ok (.ireturn, 1) := by decide +kernel
theorem dX9_person_50 : decode mX9_person.2.1 50 = .ok (.aload_n 0, 1) := by decide +kernel
theorem dX9_person_51 : decode mX9_person.2.1 51 = .ok (.getfield 20, 3) := by decide +kernel
theorem dX9_person_54 : decode mX9_person.2.1 54 = .ok (.getfield 120, 3) := by decide +kernel
theorem dX9_person_57 : decode mX9_person.2.1 57 = .ok (.iload_n 1, 1) := by decide +kernel
theorem dX9_person_58 : decode mX9_person.2.1 58 = .ok (.iaload, 1) := by decide +kernel
theorem dX9_person_59 : decode mX9_person.2.1 59 = .ok (.ireturn, 1) := by decide +kernel
theorem dX9_person_60 : decode mX9_person.2.1 60 = .ok (.aload_n 0, 1) := by decide +kernel
theorem dX9_person_61 : decode mX9_person.2.1 61 = .ok (.getfield 40, 3) := by decide +kernel
theorem dX9_person_64 : decode mX9_person.2.1 64 = .ok (.getfield 123, 3) := by decide +kernel
theorem dX9_person_67 : decode mX9_person.2.1 67 = .ok (.iload_n 1, 1) := by decide +kernel
theorem dX9_person_68 : decode mX9_person.2.1 68 = .ok (.iaload, 1) := by decide +kernel
theorem dX9_person_69 : decode mX9_person.2.1 69 = .ok (.ireturn, 1) := by decide +kernel
theorem dX9_person_70 : decode mX9_person.2.1 70 = .ok (.aload_n 0, 1) := by decide +kernel
theorem dX9_person_71 : decode mX9_person.2.1 71 = .ok (.getfield 20, 3) := by decide +kernel
theorem dX9_person_74 : decode mX9_person.2.1 74 = .ok (.aload_n 0, 1) := by decide +kernel
theorem dX9_person_75 : decode mX9_person.2.1 75 = .ok (.getfield 40, 3) := by decide +kernel
theorem dX9_person_78 : decode mX9_person.2.1 78 = .ok (.iload_n 1, 1) := by decide +kernel
theorem dX9_person_79 : decode mX9_person.2.1 79 = .ok (.invokevirtual 126, 3) := by decide +kernel
theorem dX9_person_82 : decode mX9_person.2.1 82 = .ok (.ifCond .eq 7, 3) := by decide +kernel
theorem dX9_person_85 : decode mX9_person.2.1 85 = .ok (.iconst 1, 1) := by decide +kernel
theorem dX9_person_86 : decode mX9_person.2.1 86 = .ok (.goto 4, 3) := by decide +kernel
theorem dX9_person_89 : decode mX9_person.2.1 89 = .ok (.iconst 0, 1) := by decide +kernel
theorem dX9_person_90 : decode mX9_person.2.1 90 = .ok (.ireturn, 1) := by decide +kernel
theorem dX9_person_91 : decode mX9_person.2.1 91 = .ok (.iconst (-1), 1) := by decide +kernel
theorem dX9_person_92 : decode mX9_person.2.1 92 = .ok (.ireturn, 1) := by decide +kernel
theorem bX9_person_0 {E : px_E} {d : Nat} {w : pw_W} {Q : Option Value → pw_W → Prop} {t : ct_T} (hw : w.1 = cs t) {x1 x2 : Int32} (ht1 : is_Hamlet t.1) 
    (k1 : (pX9_isPerson w t x1) → x2 = 0 → px_W E mX9_person (d + 2) 0 0 40 [.ref 1, .int x1, .null] [] w Q)
    (k2 : (pX9_isPerson w t x1) → ¬ x2 = 0 → x2 = 1 → px_W E mX9_person (d + 2) 0 0 50 [.ref 1, .int x1, .null] [] w Q)
    (k3 : (pX9_isPerson w t x1) → ¬ x2 = 0 → ¬ x2 = 1 → x2 = 2 → px_W E mX9_person (d + 2) 0 0 60 [.ref 1, .int x1, .null] [] w Q)
    (k4 : (pX9_isPerson w t x1) → ¬ x2 = 0 → ¬ x2 = 1 → ¬ x2 = 2 → x2 = 3 → px_W E mX9_person (d + 2) 0 0 70 [.ref 1, .int x1, .null] [] w Q)
    (k5 : (pX9_isPerson w t x1) → ¬ x2 = 0 → ¬ x2 = 1 → ¬ x2 = 2 → ¬ x2 = 3 → Q (some (.int (-1))) w)
    (k6 : ¬ (pX9_isPerson w t x1) → Q (some (.int (-1))) w) :
    px_W E mX9_person (d + 2) 0 0 0 [.ref 1, .int x1, .int x2] [] w Q := by
  refine px_aload_n dX9_person_0 rfl rfl ?_
  refine px_iload_n dX9_person_1 rfl rfl ?_
  refine px_callV (As := [.int x1]) (st := []) (rc := 0) (rs := 0) (mc := 0) (ms := 0) dX9_person_2 lk_9_113 (px_sh1 hw sh_1) rfl rfl (Nat.le_of_ble_eq_true rfl) (sX9_isPerson (w := w) hw ht1 ?_)
  show px_W E mX9_person (d + 2) 0 0 5 [.ref 1, .int x1, .int x2] [.int (jb (pX9_isPerson w t x1))] w Q
  refine px_jb_ne (tgt := 10) dX9_person_5 (by decide) (fun h1 => ?_) (fun h1 => ?_)
  ·
    refine px_iload_n dX9_person_10 rfl rfl ?_
    by_cases h2 : x2 = 0
    ·
      refine px_table (tgt := 40) dX9_person_11 29 (by rw [h2]; decide) (by decide) ?_
      exact px_forget (k1 h1 h2) ⟨Or.inr rfl, Or.inr rfl, Or.inl rfl, trivial⟩
    by_cases h3 : x2 = 1
    ·
      refine px_table (tgt := 50) dX9_person_11 39 (by rw [h3]; decide) (by decide) ?_
      exact px_forget (k2 h1 h2 h3) ⟨Or.inr rfl, Or.inr rfl, Or.inl rfl, trivial⟩
    by_cases h4 : x2 = 2
    ·
      refine px_table (tgt := 60) dX9_person_11 49 (by rw [h4]; decide) (by decide) ?_
      exact px_forget (k3 h1 h2 h3 h4) ⟨Or.inr rfl, Or.inr rfl, Or.inl rfl, trivial⟩
    by_cases h5 : x2 = 3
    ·
      refine px_table (tgt := 70) dX9_person_11 59 (by rw [h5]; decide) (by decide) ?_
      exact px_forget (k4 h1 h2 h3 h4 h5) ⟨Or.inr rfl, Or.inr rfl, Or.inl rfl, trivial⟩
    refine px_table (tgt := 91) dX9_person_11 80 (by have a0 := lv_neT h2 (show (0 : Int32).toInt = 0 from by decide); have a1 := lv_neT h3 (show (1 : Int32).toInt = 1 from by decide); have a2 := lv_neT h4 (show (2 : Int32).toInt = 2 from by decide); have a3 := lv_neT h5 (show (3 : Int32).toInt = 3 from by decide); rw [if_pos (by omega)]) (by decide) ?_
    refine px_iconst dX9_person_91 ic_m1 ?_
    exact px_ireturn dX9_person_92 rfl rfl (k5 h1 h2 h3 h4 h5)
  ·
    refine px_iconst dX9_person_8 ic_m1 ?_
    exact px_ireturn dX9_person_9 rfl rfl (k6 h1)
theorem eX9_person {E : px_E} {d : Nat} {w : pw_W} {Q : Option Value → pw_W → Prop} {t : ct_T} (hw : w.1 = cs t) {x1 x2 : Int32} (ht1 : is_Hamlet t.1) 
    (k1 : (pX9_isPerson w t x1) → x2 = 0 → px_W E mX9_person (d + 2) 0 0 40 [.ref 1, .int x1, .null] [] w Q)
    (k2 : (pX9_isPerson w t x1) → ¬ x2 = 0 → x2 = 1 → px_W E mX9_person (d + 2) 0 0 50 [.ref 1, .int x1, .null] [] w Q)
    (k3 : (pX9_isPerson w t x1) → ¬ x2 = 0 → ¬ x2 = 1 → x2 = 2 → px_W E mX9_person (d + 2) 0 0 60 [.ref 1, .int x1, .null] [] w Q)
    (k4 : (pX9_isPerson w t x1) → ¬ x2 = 0 → ¬ x2 = 1 → ¬ x2 = 2 → x2 = 3 → px_W E mX9_person (d + 2) 0 0 70 [.ref 1, .int x1, .null] [] w Q)
    (k5 : (pX9_isPerson w t x1) → ¬ x2 = 0 → ¬ x2 = 1 → ¬ x2 = 2 → ¬ x2 = 3 → Q (some (.int (-1))) w)
    (k6 : ¬ (pX9_isPerson w t x1) → Q (some (.int (-1))) w) :
    px_Call E (d + 2) 0 0 mX9_person [.ref 1, .int x1, .int x2] w Q :=
  px_enter (k := 0) (by decide) (Nat.le_of_ble_eq_true rfl) rfl (px_forget (bX9_person_0 hw ht1 k1 k2 k3 k4 k5 k6) ⟨Or.inr rfl, Or.inr rfl, Or.inr rfl, trivial⟩)
theorem bX9_person_40 {E : px_E} {d : Nat} {w : pw_W} {Q : Option Value → pw_W → Prop} {t : ct_T} (hw : w.1 = cs t) {x1 : Int32} (ht1 : is_Hamlet t.1) (j1 : Nat) (hj1 : x1 = nI j1) (hl1 : j1 < 6)
    (k1 : Q (some (.int (pw_I w 37 j1))) w) :
    px_W E mX9_person (d + 2) 0 0 40 [.ref 1, .int x1, .null] [] w Q := by
  refine px_aload_n dX9_person_40 rfl rfl ?_
  refine px_getR (v := 35) dX9_person_41 fr_9_40 rfl (px_sh1 hw sh_1) (px_rf hw rf_1_6) (by decide) ?_
  refine px_getR (v := 37) dX9_person_44 fr_9_117 rfl (px_sh1 hw sh_35) (px_rf hw rf_35_1) (by decide) ?_
  refine px_iload_n dX9_person_47 rfl rfl ?_
  refine px_iald dX9_person_48 (px_sh2 hw sh_37) (by decide) j1 hj1 hl1 ?_
  exact px_ireturn dX9_person_49 rfl rfl k1
theorem bX9_person_50 {E : px_E} {d : Nat} {w : pw_W} {Q : Option Value → pw_W → Prop} {t : ct_T} (hw : w.1 = cs t) {x1 : Int32} (ht1 : is_Hamlet t.1) (j1 : Nat) (hj1 : x1 = nI j1) (hl1 : j1 < 6)
    (k1 : Q (some (.int (pw_I w (t.1 + 2) j1))) w) :
    px_W E mX9_person (d + 2) 0 0 50 [.ref 1, .int x1, .null] [] w Q := by
  refine px_aload_n dX9_person_50 rfl rfl ?_
  refine px_getR (v := t.1) dX9_person_51 fr_9_20 rfl (px_sh1 hw sh_1) (px_rf hw rf_1_2) ht1.ne ?_
  refine px_getR (v := (t.1 + 2)) dX9_person_54 fr_9_120 rfl (px_sh1 hw ht1.sh) (px_rf hw ht1.rf2) (Nat.succ_ne_zero _) ?_
  refine px_iload_n dX9_person_57 rfl rfl ?_
  refine px_iald dX9_person_58 (px_sh2 hw ht1.sh2) (by decide) j1 hj1 hl1 ?_
  exact px_ireturn dX9_person_59 rfl rfl k1
theorem bX9_person_60 {E : px_E} {d : Nat} {w : pw_W} {Q : Option Value → pw_W → Prop} {t : ct_T} (hw : w.1 = cs t) {x1 : Int32} (ht1 : is_Hamlet t.1) (j1 : Nat) (hj1 : x1 = nI j1) (hl1 : j1 < 6)
    (k1 : Q (some (.int (pw_I w 36 j1))) w) :
    px_W E mX9_person (d + 2) 0 0 60 [.ref 1, .int x1, .null] [] w Q := by
  refine px_aload_n dX9_person_60 rfl rfl ?_
  refine px_getR (v := 35) dX9_person_61 fr_9_40 rfl (px_sh1 hw sh_1) (px_rf hw rf_1_6) (by decide) ?_
  refine px_getR (v := 36) dX9_person_64 fr_9_123 rfl (px_sh1 hw sh_35) (px_rf hw rf_35_0) (by decide) ?_
  refine px_iload_n dX9_person_67 rfl rfl ?_
  refine px_iald dX9_person_68 (px_sh2 hw sh_36) (by decide) j1 hj1 hl1 ?_
  exact px_ireturn dX9_person_69 rfl rfl k1
theorem bX9_person_70 {E : px_E} {d : Nat} {w : pw_W} {Q : Option Value → pw_W → Prop} {t : ct_T} (hw : w.1 = cs t) {x1 : Int32} (ht1 : is_Hamlet t.1) (j1 : Nat) (hj1 : x1 = nI j1) (hl1 : j1 < 6)
    (k1 : ¬ (pX2_liesAbed w t.1 35 x1 j1) → px_W E mX9_person (d + 2) 0 0 90 [.null, .null, .null] [.int 0] w Q)
    (k2 : (pX2_liesAbed w t.1 35 x1 j1) → px_W E mX9_person (d + 2) 0 0 90 [.null, .null, .null] [.int 1] w Q) :
    px_W E mX9_person (d + 2) 0 0 70 [.ref 1, .int x1, .null] [] w Q := by
  refine px_aload_n dX9_person_70 rfl rfl ?_
  refine px_getR (v := t.1) dX9_person_71 fr_9_20 rfl (px_sh1 hw sh_1) (px_rf hw rf_1_2) ht1.ne ?_
  refine px_aload_n dX9_person_74 rfl rfl ?_
  refine px_getR (v := 35) dX9_person_75 fr_9_40 rfl (px_sh1 hw sh_1) (px_rf hw rf_1_6) (by decide) ?_
  refine px_iload_n dX9_person_78 rfl rfl ?_
  refine px_forget (ls' := [.null, .null, .null]) ?_ ⟨Or.inl rfl, Or.inl rfl, Or.inl rfl, trivial⟩
  refine px_callV (As := [.ref 35, .int x1]) (st := []) (rc := 0) (rs := 0) (mc := 0) (ms := 0) dX9_person_79 lk_9_126 (px_sh1 hw ht1.sh) rfl rfl (Nat.le_of_ble_eq_true rfl) (sX2_liesAbed (w := w) hw ht1 (by simp [is_State, is_Hamlet, is_Formula]) j1 hj1 hl1 ?_)
  show px_W E mX9_person (d + 2) 0 0 82 [.null, .null, .null] [.int (jb (pX2_liesAbed w t.1 35 x1 j1))] w Q
  refine px_jb_eq (tgt := 89) dX9_person_82 (by decide) (fun h1 => ?_) (fun h1 => ?_)
  ·
    refine px_iconst dX9_person_89 ic_0 ?_
    exact (k1 h1)
  ·
    refine px_iconst dX9_person_85 ic_1 ?_
    refine px_goto (tgt := 90) dX9_person_86 (by decide) ?_
    exact (k2 h1)
theorem bX9_person_90 {E : px_E} {d : Nat} {w : pw_W} {Q : Option Value → pw_W → Prop} {t : ct_T} (hw : w.1 = cs t) {y0 : Int32} (ht1 : is_Hamlet t.1) 
    (k1 : Q (some (.int y0)) w) :
    px_W E mX9_person (d + 2) 0 0 90 [.null, .null, .null] [.int y0] w Q := by
  exact px_ireturn dX9_person_90 rfl rfl k1
theorem dX9_meeting_0 : decode mX9_meeting.2.1 0 = .ok (.aload_n 0, 1) := by decide +kernel
theorem dX9_meeting_1 : decode mX9_meeting.2.1 1 = .ok (.iload_n 1, 1) := by decide +kernel
theorem dX9_meeting_2 : decode mX9_meeting.2.1 2 = .ok (.invokevirtual 130, 3) := by decide +kernel
theorem dX9_meeting_5 : decode mX9_meeting.2.1 5 = .ok (.ifCond .ne 5, 3) := by decide +kernel
theorem dX9_meeting_8 : decode mX9_meeting.2.1 8 = .ok (.iconst (-1), 1) := by decide +kernel
theorem dX9_meeting_9 : decode mX9_meeting.2.1 9 = .ok (.ireturn, 1) := by decide +kernel
theorem dX9_meeting_10 : decode mX9_meeting.2.1 10 = .ok (.iload_n 2, 1) := by decide +kernel
theorem dX9_meeting_11 : decode mX9_meeting.2.1 11 = .ok (.tableswitch 76 0 3 #[29, 39, 49, 59], 29) := by decide +kernel
theorem dX9_meeting_40 : decode mX9_meeting.2.1 40 = .ok (.aload_n 0, 1) := by decide +kernel
theorem dX9_meeting_41 : decode mX9_meeting.2.1 41 = .ok (.getfield 20, 3) := by decide +kernel
theorem dX9_meeting_44 : decode mX9_meeting.2.1 44 = .ok (.getfield 133, 3) := by decide +kernel
theorem dX9_meeting_47 : decode mX9_meeting.2.1 47 = .ok (.iload_n 1, 1) := by decide +kernel
theorem dX9_meeting_48 : decode mX9_meeting.2.1 48 = .ok (.iaload, 1) := by decide +kernel
theorem dX9_meeting_49 : decode mX9_meeting.2.1 49 = .ok (.ireturn, 1) := by decide +kernel
theorem dX9_meeting_50 : decode mX9_meeting.2.1 50 = .ok (.aload_n 0, 1) := by decide +kernel
theorem dX9_meeting_51 : decode mX9_meeting.2.1 51 = .ok (.getfield 20, 3) := by decide +kernel
theorem dX9_meeting_54 : decode mX9_meeting.2.1 54 = .ok (.getfield 136, 3) := by decide +kernel
theorem dX9_meeting_57 : decode mX9_meeting.2.1 57 = .ok (.iload_n 1, 1) := by decide +kernel
theorem dX9_meeting_58 : decode mX9_meeting.2.1 58 = .ok (.iaload, 1) := by decide +kernel
theorem dX9_meeting_59 : decode mX9_meeting.2.1 59 = .ok (.ireturn, 1) := by decide +kernel
theorem dX9_meeting_60 : decode mX9_meeting.2.1 60 = .ok (.aload_n 0, 1) := by decide +kernel
theorem dX9_meeting_61 : decode mX9_meeting.2.1 61 = .ok (.getfield 20, 3) := by decide +kernel
theorem dX9_meeting_64 : decode mX9_meeting.2.1 64 = .ok (.getfield 139, 3) := by decide +kernel
theorem dX9_meeting_67 : decode mX9_meeting.2.1 67 = .ok (.iload_n 1, 1) := by decide +kernel
theorem dX9_meeting_68 : decode mX9_meeting.2.1 68 = .ok (.iaload, 1) := by decide +kernel
theorem dX9_meeting_69 : decode mX9_meeting.2.1 69 = .ok (.ireturn, 1) := by decide +kernel
theorem dX9_meeting_70 : decode mX9_meeting.2.1 70 = .ok (.aload_n 0, 1) := by decide +kernel
theorem dX9_meeting_71 : decode mX9_meeting.2.1 71 = .ok (.getfield 40, 3) := by decide +kernel
theorem dX9_meeting_74 : decode mX9_meeting.2.1 74 = .ok (.iload_n 1, 1) := by decide +kernel
theorem dX9_meeting_75 : decode mX9_meeting.2.1 75 = .ok (.invokevirtual 142, 3) := by decide +kernel
theorem dX9_meeting_78 : decode mX9_meeting.2.1 78 = .ok (.ifCond .eq 7, 3) := by decide +kernel
theorem dX9_meeting_81 : decode mX9_meeting.2.1 81 = .ok (.iconst 1, 1) := by decide +kernel
theorem dX9_meeting_82 : decode mX9_meeting.2.1 82 = .ok (.goto 4, 3) := by decide +kernel
theorem dX9_meeting_85 : decode mX9_meeting.2.1 85 = .ok (.iconst 0, 1) := by decide +kernel
theorem dX9_meeting_86 : decode mX9_meeting.2.1 86 = .ok (.ireturn, 1) := by decide +kernel
theorem dX9_meeting_87 : decode mX9_meeting.2.1 87 = .ok (.iconst (-1), 1) := by decide +kernel
theorem dX9_meeting_88 : decode mX9_meeting.2.1 88 = .ok (.ireturn, 1) := by decide +kernel
theorem bX9_meeting_0 {E : px_E} {d : Nat} {w : pw_W} {Q : Option Value → pw_W → Prop} {t : ct_T} (hw : w.1 = cs t) {x1 x2 : Int32} (ht1 : is_Hamlet t.1) 
    (k1 : (pX9_isMeeting w t x1) → x2 = 0 → px_W E mX9_meeting (d + 2) 0 0 40 [.ref 1, .int x1, .null] [] w Q)
    (k2 : (pX9_isMeeting w t x1) → ¬ x2 = 0 → x2 = 1 → px_W E mX9_meeting (d + 2) 0 0 50 [.ref 1, .int x1, .null] [] w Q)
    (k3 : (pX9_isMeeting w t x1) → ¬ x2 = 0 → ¬ x2 = 1 → x2 = 2 → px_W E mX9_meeting (d + 2) 0 0 60 [.ref 1, .int x1, .null] [] w Q)
    (k4 : (pX9_isMeeting w t x1) → ¬ x2 = 0 → ¬ x2 = 1 → ¬ x2 = 2 → x2 = 3 → ¬ (pX8_isForbidden w 35 x1) → px_W E mX9_meeting (d + 2) 0 0 86 [.null, .null, .null] [.int 0] w Q)
    (k5 : (pX9_isMeeting w t x1) → ¬ x2 = 0 → ¬ x2 = 1 → ¬ x2 = 2 → x2 = 3 → (pX8_isForbidden w 35 x1) → px_W E mX9_meeting (d + 2) 0 0 86 [.null, .null, .null] [.int 1] w Q)
    (k6 : (pX9_isMeeting w t x1) → ¬ x2 = 0 → ¬ x2 = 1 → ¬ x2 = 2 → ¬ x2 = 3 → Q (some (.int (-1))) w)
    (k7 : ¬ (pX9_isMeeting w t x1) → Q (some (.int (-1))) w) :
    px_W E mX9_meeting (d + 2) 0 0 0 [.ref 1, .int x1, .int x2] [] w Q := by
  refine px_aload_n dX9_meeting_0 rfl rfl ?_
  refine px_iload_n dX9_meeting_1 rfl rfl ?_
  refine px_callV (As := [.int x1]) (st := []) (rc := 0) (rs := 0) (mc := 0) (ms := 0) dX9_meeting_2 lk_9_130 (px_sh1 hw sh_1) rfl rfl (Nat.le_of_ble_eq_true rfl) (sX9_isMeeting (w := w) hw ht1 ?_)
  show px_W E mX9_meeting (d + 2) 0 0 5 [.ref 1, .int x1, .int x2] [.int (jb (pX9_isMeeting w t x1))] w Q
  refine px_jb_ne (tgt := 10) dX9_meeting_5 (by decide) (fun h1 => ?_) (fun h1 => ?_)
  ·
    refine px_iload_n dX9_meeting_10 rfl rfl ?_
    by_cases h2 : x2 = 0
    ·
      refine px_table (tgt := 40) dX9_meeting_11 29 (by rw [h2]; decide) (by decide) ?_
      exact px_forget (k1 h1 h2) ⟨Or.inr rfl, Or.inr rfl, Or.inl rfl, trivial⟩
    by_cases h3 : x2 = 1
    ·
      refine px_table (tgt := 50) dX9_meeting_11 39 (by rw [h3]; decide) (by decide) ?_
      exact px_forget (k2 h1 h2 h3) ⟨Or.inr rfl, Or.inr rfl, Or.inl rfl, trivial⟩
    by_cases h4 : x2 = 2
    ·
      refine px_table (tgt := 60) dX9_meeting_11 49 (by rw [h4]; decide) (by decide) ?_
      exact px_forget (k3 h1 h2 h3 h4) ⟨Or.inr rfl, Or.inr rfl, Or.inl rfl, trivial⟩
    by_cases h5 : x2 = 3
    ·
      refine px_table (tgt := 70) dX9_meeting_11 59 (by rw [h5]; decide) (by decide) ?_
      refine px_aload_n dX9_meeting_70 rfl rfl ?_
      refine px_getR (v := 35) dX9_meeting_71 fr_9_40 rfl (px_sh1 hw sh_1) (px_rf hw rf_1_6) (by decide) ?_
      refine px_iload_n dX9_meeting_74 rfl rfl ?_
      refine px_forget (ls' := [.null, .null, .null]) ?_ ⟨Or.inl rfl, Or.inl rfl, Or.inl rfl, trivial⟩
      refine px_callV (As := [.int x1]) (st := []) (rc := 0) (rs := 0) (mc := 0) (ms := 0) dX9_meeting_75 lk_9_142 (px_sh1 hw sh_35) rfl rfl (Nat.le_of_ble_eq_true rfl) (sX8_isForbidden (w := w) hw (by simp [is_State, is_Hamlet, is_Formula]) ?_)
      show px_W E mX9_meeting (d + 2) 0 0 78 [.null, .null, .null] [.int (jb (pX8_isForbidden w 35 x1))] w Q
      refine px_jb_eq (tgt := 85) dX9_meeting_78 (by decide) (fun h6 => ?_) (fun h6 => ?_)
      ·
        refine px_iconst dX9_meeting_85 ic_0 ?_
        exact (k4 h1 h2 h3 h4 h5 h6)
      ·
        refine px_iconst dX9_meeting_81 ic_1 ?_
        refine px_goto (tgt := 86) dX9_meeting_82 (by decide) ?_
        exact (k5 h1 h2 h3 h4 h5 h6)
    refine px_table (tgt := 87) dX9_meeting_11 76 (by have a0 := lv_neT h2 (show (0 : Int32).toInt = 0 from by decide); have a1 := lv_neT h3 (show (1 : Int32).toInt = 1 from by decide); have a2 := lv_neT h4 (show (2 : Int32).toInt = 2 from by decide); have a3 := lv_neT h5 (show (3 : Int32).toInt = 3 from by decide); rw [if_pos (by omega)]) (by decide) ?_
    refine px_iconst dX9_meeting_87 ic_m1 ?_
    exact px_ireturn dX9_meeting_88 rfl rfl (k6 h1 h2 h3 h4 h5)
  ·
    refine px_iconst dX9_meeting_8 ic_m1 ?_
    exact px_ireturn dX9_meeting_9 rfl rfl (k7 h1)
theorem eX9_meeting {E : px_E} {d : Nat} {w : pw_W} {Q : Option Value → pw_W → Prop} {t : ct_T} (hw : w.1 = cs t) {x1 x2 : Int32} (ht1 : is_Hamlet t.1) 
    (k1 : (pX9_isMeeting w t x1) → x2 = 0 → px_W E mX9_meeting (d + 2) 0 0 40 [.ref 1, .int x1, .null] [] w Q)
    (k2 : (pX9_isMeeting w t x1) → ¬ x2 = 0 → x2 = 1 → px_W E mX9_meeting (d + 2) 0 0 50 [.ref 1, .int x1, .null] [] w Q)
    (k3 : (pX9_isMeeting w t x1) → ¬ x2 = 0 → ¬ x2 = 1 → x2 = 2 → px_W E mX9_meeting (d + 2) 0 0 60 [.ref 1, .int x1, .null] [] w Q)
    (k4 : (pX9_isMeeting w t x1) → ¬ x2 = 0 → ¬ x2 = 1 → ¬ x2 = 2 → x2 = 3 → ¬ (pX8_isForbidden w 35 x1) → px_W E mX9_meeting (d + 2) 0 0 86 [.null, .null, .null] [.int 0] w Q)
    (k5 : (pX9_isMeeting w t x1) → ¬ x2 = 0 → ¬ x2 = 1 → ¬ x2 = 2 → x2 = 3 → (pX8_isForbidden w 35 x1) → px_W E mX9_meeting (d + 2) 0 0 86 [.null, .null, .null] [.int 1] w Q)
    (k6 : (pX9_isMeeting w t x1) → ¬ x2 = 0 → ¬ x2 = 1 → ¬ x2 = 2 → ¬ x2 = 3 → Q (some (.int (-1))) w)
    (k7 : ¬ (pX9_isMeeting w t x1) → Q (some (.int (-1))) w) :
    px_Call E (d + 2) 0 0 mX9_meeting [.ref 1, .int x1, .int x2] w Q :=
  px_enter (k := 0) (by decide) (Nat.le_of_ble_eq_true rfl) rfl (px_forget (bX9_meeting_0 hw ht1 k1 k2 k3 k4 k5 k6 k7) ⟨Or.inr rfl, Or.inr rfl, Or.inr rfl, trivial⟩)
theorem bX9_meeting_40 {E : px_E} {d : Nat} {w : pw_W} {Q : Option Value → pw_W → Prop} {t : ct_T} (hw : w.1 = cs t) {x1 : Int32} (ht1 : is_Hamlet t.1) (j1 : Nat) (hj1 : x1 = nI j1) (hl1 : j1 < 9)
    (k1 : Q (some (.int (pw_I w (t.1 + 4) j1))) w) :
    px_W E mX9_meeting (d + 2) 0 0 40 [.ref 1, .int x1, .null] [] w Q := by
  refine px_aload_n dX9_meeting_40 rfl rfl ?_
  refine px_getR (v := t.1) dX9_meeting_41 fr_9_20 rfl (px_sh1 hw sh_1) (px_rf hw rf_1_2) ht1.ne ?_
  refine px_getR (v := (t.1 + 4)) dX9_meeting_44 fr_9_133 rfl (px_sh1 hw ht1.sh) (px_rf hw ht1.rf5) (Nat.succ_ne_zero _) ?_
  refine px_iload_n dX9_meeting_47 rfl rfl ?_
  refine px_iald dX9_meeting_48 (px_sh2 hw ht1.sh4) (by decide) j1 hj1 hl1 ?_
  exact px_ireturn dX9_meeting_49 rfl rfl k1
theorem bX9_meeting_50 {E : px_E} {d : Nat} {w : pw_W} {Q : Option Value → pw_W → Prop} {t : ct_T} (hw : w.1 = cs t) {x1 : Int32} (ht1 : is_Hamlet t.1) (j1 : Nat) (hj1 : x1 = nI j1) (hl1 : j1 < 9)
    (k1 : Q (some (.int (pw_I w (t.1 + 5) j1))) w) :
    px_W E mX9_meeting (d + 2) 0 0 50 [.ref 1, .int x1, .null] [] w Q := by
  refine px_aload_n dX9_meeting_50 rfl rfl ?_
  refine px_getR (v := t.1) dX9_meeting_51 fr_9_20 rfl (px_sh1 hw sh_1) (px_rf hw rf_1_2) ht1.ne ?_
  refine px_getR (v := (t.1 + 5)) dX9_meeting_54 fr_9_136 rfl (px_sh1 hw ht1.sh) (px_rf hw ht1.rf6) (Nat.succ_ne_zero _) ?_
  refine px_iload_n dX9_meeting_57 rfl rfl ?_
  refine px_iald dX9_meeting_58 (px_sh2 hw ht1.sh5) (by decide) j1 hj1 hl1 ?_
  exact px_ireturn dX9_meeting_59 rfl rfl k1
theorem bX9_meeting_60 {E : px_E} {d : Nat} {w : pw_W} {Q : Option Value → pw_W → Prop} {t : ct_T} (hw : w.1 = cs t) {x1 : Int32} (ht1 : is_Hamlet t.1) (j1 : Nat) (hj1 : x1 = nI j1) (hl1 : j1 < 9)
    (k1 : Q (some (.int (pw_I w (t.1 + 6) j1))) w) :
    px_W E mX9_meeting (d + 2) 0 0 60 [.ref 1, .int x1, .null] [] w Q := by
  refine px_aload_n dX9_meeting_60 rfl rfl ?_
  refine px_getR (v := t.1) dX9_meeting_61 fr_9_20 rfl (px_sh1 hw sh_1) (px_rf hw rf_1_2) ht1.ne ?_
  refine px_getR (v := (t.1 + 6)) dX9_meeting_64 fr_9_139 rfl (px_sh1 hw ht1.sh) (px_rf hw ht1.rf7) (Nat.succ_ne_zero _) ?_
  refine px_iload_n dX9_meeting_67 rfl rfl ?_
  refine px_iald dX9_meeting_68 (px_sh2 hw ht1.sh6) (by decide) j1 hj1 hl1 ?_
  exact px_ireturn dX9_meeting_69 rfl rfl k1
theorem bX9_meeting_86 {E : px_E} {d : Nat} {w : pw_W} {Q : Option Value → pw_W → Prop} {t : ct_T} (hw : w.1 = cs t) {y0 : Int32} (ht1 : is_Hamlet t.1) 
    (k1 : Q (some (.int y0)) w) :
    px_W E mX9_meeting (d + 2) 0 0 86 [.null, .null, .null] [.int y0] w Q := by
  exact px_ireturn dX9_meeting_86 rfl rfl k1
theorem dX9_brother_0 : decode mX9_brother.2.1 0 = .ok (.aload_n 0, 1) := by decide +kernel
theorem dX9_brother_1 : decode mX9_brother.2.1 1 = .ok (.iload_n 1, 1) := by decide +kernel
theorem dX9_brother_2 : decode mX9_brother.2.1 2 = .ok (.invokevirtual 145, 3) := by decide +kernel
theorem dX9_brother_5 : decode mX9_brother.2.1 5 = .ok (.ifCond .ne 5, 3) := by decide +kernel
theorem dX9_brother_8 : decode mX9_brother.2.1 8 = .ok (.iconst (-1), 1) := by decide +kernel
theorem dX9_brother_9 : decode mX9_brother.2.1 9 = .ok (.ireturn, 1) := by decide +kernel
theorem dX9_brother_10 : decode mX9_brother.2.1 10 = .ok (.iload_n 2, 1) := by decide +kernel
theorem dX9_brother_11 : decode mX9_brother.2.1 11 = .ok (.lookupswitch 45 #[(0, 25), (1, 35)], 25) := by decide +kernel
theorem dX9_brother_36 : decode mX9_brother.2.1 36 = .ok (.aload_n 0, 1) := by decide +kernel
theorem dX9_brother_37 : decode mX9_brother.2.1 37 = .ok (.getfield 20, 3) := by decide +kernel
theorem dX9_brother_40 : decode mX9_brother.2.1 40 = .ok (.getfield 148, 3) := by decide +kernel
theorem dX9_brother_43 : decode mX9_brother.2.1 43 = .ok (.iload_n 1, 1) := by decide +kernel
theorem dX9_brother_44 : decode mX9_brother.2.1 44 = .ok (.iaload, 1) := by decide +kernel
theorem dX9_brother_45 : decode mX9_brother.2.1 45 = .ok (.ireturn, 1) := by decide +kernel
theorem dX9_brother_46 : decode mX9_brother.2.1 46 = .ok (.aload_n 0, 1) := by decide +kernel
theorem dX9_brother_47 : decode mX9_brother.2.1 47 = .ok (.getfield 20, 3) := by decide +kernel
theorem dX9_brother_50 : decode mX9_brother.2.1 50 = .ok (.getfield 151, 3) := by decide +kernel
theorem dX9_brother_53 : decode mX9_brother.2.1 53 = .ok (.iload_n 1, 1) := by decide +kernel
theorem dX9_brother_54 : decode mX9_brother.2.1 54 = .ok (.iaload, 1) := by decide +kernel
theorem dX9_brother_55 : decode mX9_brother.2.1 55 = .ok (.ireturn, 1) := by decide +kernel
theorem dX9_brother_56 : decode mX9_brother.2.1 56 = .ok (.iconst (-1), 1) := by decide +kernel
theorem dX9_brother_57 : decode mX9_brother.2.1 57 = .ok (.ireturn, 1) := by decide +kernel
theorem bX9_brother_0 {E : px_E} {d : Nat} {w : pw_W} {Q : Option Value → pw_W → Prop} {t : ct_T} (hw : w.1 = cs t) {x1 x2 : Int32} (ht1 : is_Hamlet t.1) 
    (k1 : (pX9_isBrother w t x1) → x2 = 0 → px_W E mX9_brother (d + 2) 0 0 36 [.ref 1, .int x1, .null] [] w Q)
    (k2 : (pX9_isBrother w t x1) → ¬ x2 = 0 → x2 = 1 → px_W E mX9_brother (d + 2) 0 0 46 [.ref 1, .int x1, .null] [] w Q)
    (k3 : (pX9_isBrother w t x1) → ¬ x2 = 0 → ¬ x2 = 1 → Q (some (.int (-1))) w)
    (k4 : ¬ (pX9_isBrother w t x1) → Q (some (.int (-1))) w) :
    px_W E mX9_brother (d + 2) 0 0 0 [.ref 1, .int x1, .int x2] [] w Q := by
  refine px_aload_n dX9_brother_0 rfl rfl ?_
  refine px_iload_n dX9_brother_1 rfl rfl ?_
  refine px_callV (As := [.int x1]) (st := []) (rc := 0) (rs := 0) (mc := 0) (ms := 0) dX9_brother_2 lk_9_145 (px_sh1 hw sh_1) rfl rfl (Nat.le_of_ble_eq_true rfl) (sX9_isBrother (w := w) hw ht1 ?_)
  show px_W E mX9_brother (d + 2) 0 0 5 [.ref 1, .int x1, .int x2] [.int (jb (pX9_isBrother w t x1))] w Q
  refine px_jb_ne (tgt := 10) dX9_brother_5 (by decide) (fun h1 => ?_) (fun h1 => ?_)
  ·
    refine px_iload_n dX9_brother_10 rfl rfl ?_
    by_cases h2 : x2 = 0
    ·
      refine px_lookup (off := 25) (tgt := 36) dX9_brother_11 (by decide) (by rw [h2]; decide) (by decide) ?_
      exact px_forget (k1 h1 h2) ⟨Or.inr rfl, Or.inr rfl, Or.inl rfl, trivial⟩
    by_cases h3 : x2 = 1
    ·
      refine px_lookup (off := 35) (tgt := 46) dX9_brother_11 (by decide) (by rw [h3]; decide) (by decide) ?_
      exact px_forget (k2 h1 h2 h3) ⟨Or.inr rfl, Or.inr rfl, Or.inl rfl, trivial⟩
    refine px_lookup (off := 45) (tgt := 56) dX9_brother_11 (by decide) (by simp only []; rw [lv_osw h2 (by decide), lv_osw h3 (by decide)]; rfl) (by decide) ?_
    refine px_iconst dX9_brother_56 ic_m1 ?_
    exact px_ireturn dX9_brother_57 rfl rfl (k3 h1 h2 h3)
  ·
    refine px_iconst dX9_brother_8 ic_m1 ?_
    exact px_ireturn dX9_brother_9 rfl rfl (k4 h1)
theorem eX9_brother {E : px_E} {d : Nat} {w : pw_W} {Q : Option Value → pw_W → Prop} {t : ct_T} (hw : w.1 = cs t) {x1 x2 : Int32} (ht1 : is_Hamlet t.1) 
    (k1 : (pX9_isBrother w t x1) → x2 = 0 → px_W E mX9_brother (d + 2) 0 0 36 [.ref 1, .int x1, .null] [] w Q)
    (k2 : (pX9_isBrother w t x1) → ¬ x2 = 0 → x2 = 1 → px_W E mX9_brother (d + 2) 0 0 46 [.ref 1, .int x1, .null] [] w Q)
    (k3 : (pX9_isBrother w t x1) → ¬ x2 = 0 → ¬ x2 = 1 → Q (some (.int (-1))) w)
    (k4 : ¬ (pX9_isBrother w t x1) → Q (some (.int (-1))) w) :
    px_Call E (d + 2) 0 0 mX9_brother [.ref 1, .int x1, .int x2] w Q :=
  px_enter (k := 0) (by decide) (Nat.le_of_ble_eq_true rfl) rfl (px_forget (bX9_brother_0 hw ht1 k1 k2 k3 k4) ⟨Or.inr rfl, Or.inr rfl, Or.inr rfl, trivial⟩)
theorem bX9_brother_36 {E : px_E} {d : Nat} {w : pw_W} {Q : Option Value → pw_W → Prop} {t : ct_T} (hw : w.1 = cs t) {x1 : Int32} (ht1 : is_Hamlet t.1) (j1 : Nat) (hj1 : x1 = nI j1) (hl1 : j1 < 2)
    (k1 : Q (some (.int (pw_I w (t.1 + 7) j1))) w) :
    px_W E mX9_brother (d + 2) 0 0 36 [.ref 1, .int x1, .null] [] w Q := by
  refine px_aload_n dX9_brother_36 rfl rfl ?_
  refine px_getR (v := t.1) dX9_brother_37 fr_9_20 rfl (px_sh1 hw sh_1) (px_rf hw rf_1_2) ht1.ne ?_
  refine px_getR (v := (t.1 + 7)) dX9_brother_40 fr_9_148 rfl (px_sh1 hw ht1.sh) (px_rf hw ht1.rf9) (Nat.succ_ne_zero _) ?_
  refine px_iload_n dX9_brother_43 rfl rfl ?_
  refine px_iald dX9_brother_44 (px_sh2 hw ht1.sh7) (by decide) j1 hj1 hl1 ?_
  exact px_ireturn dX9_brother_45 rfl rfl k1
theorem bX9_brother_46 {E : px_E} {d : Nat} {w : pw_W} {Q : Option Value → pw_W → Prop} {t : ct_T} (hw : w.1 = cs t) {x1 : Int32} (ht1 : is_Hamlet t.1) (j1 : Nat) (hj1 : x1 = nI j1) (hl1 : j1 < 2)
    (k1 : Q (some (.int (pw_I w (t.1 + 8) j1))) w) :
    px_W E mX9_brother (d + 2) 0 0 46 [.ref 1, .int x1, .null] [] w Q := by
  refine px_aload_n dX9_brother_46 rfl rfl ?_
  refine px_getR (v := t.1) dX9_brother_47 fr_9_20 rfl (px_sh1 hw sh_1) (px_rf hw rf_1_2) ht1.ne ?_
  refine px_getR (v := (t.1 + 8)) dX9_brother_50 fr_9_151 rfl (px_sh1 hw ht1.sh) (px_rf hw ht1.rf10) (Nat.succ_ne_zero _) ?_
  refine px_iload_n dX9_brother_53 rfl rfl ?_
  refine px_iald dX9_brother_54 (px_sh2 hw ht1.sh8) (by decide) j1 hj1 hl1 ?_
  exact px_ireturn dX9_brother_55 rfl rfl k1
theorem dX9_round_0 : decode mX9_round.2.1 0 = .ok (.aload_n 0, 1) := by decide +kernel
theorem dX9_round_1 : decode mX9_round.2.1 1 = .ok (.iload_n 1, 1) := by decide +kernel
theorem dX9_round_2 : decode mX9_round.2.1 2 = .ok (.invokevirtual 145, 3) := by decide +kernel
theorem dX9_round_5 : decode mX9_round.2.1 5 = .ok (.ifCond .eq 20, 3) := by decide +kernel
theorem dX9_round_8 : decode mX9_round.2.1 8 = .ok (.iload_n 2, 1) := by decide +kernel
theorem dX9_round_9 : decode mX9_round.2.1 9 = .ok (.ifCond .lt 16, 3) := by decide +kernel
theorem dX9_round_12 : decode mX9_round.2.1 12 = .ok (.iload_n 2, 1) := by decide +kernel
theorem dX9_round_13 : decode mX9_round.2.1 13 = .ok (.aload_n 0, 1) := by decide +kernel
theorem dX9_round_14 : decode mX9_round.2.1 14 = .ok (.getfield 20, 3) := by decide +kernel
theorem dX9_round_17 : decode mX9_round.2.1 17 = .ok (.getfield 151, 3) := by decide +kernel
theorem dX9_round_20 : decode mX9_round.2.1 20 = .ok (.iload_n 1, 1) := by decide +kernel
theorem dX9_round_21 : decode mX9_round.2.1 21 = .ok (.iaload, 1) := by decide +kernel
theorem dX9_round_22 : decode mX9_round.2.1 22 = .ok (.if_icmp .lt 5, 3) := by decide +kernel
theorem dX9_round_25 : decode mX9_round.2.1 25 = .ok (.iconst (-1), 1) := by decide +kernel
theorem dX9_round_26 : decode mX9_round.2.1 26 = .ok (.ireturn, 1) := by decide +kernel
theorem dX9_round_27 : decode mX9_round.2.1 27 = .ok (.aload_n 0, 1) := by decide +kernel
theorem dX9_round_28 : decode mX9_round.2.1 28 = .ok (.getfield 20, 3) := by decide +kernel
theorem dX9_round_31 : decode mX9_round.2.1 31 = .ok (.getfield 154, 3) := by decide +kernel
theorem dX9_round_34 : decode mX9_round.2.1 34 = .ok (.iload_n 1, 1) := by decide +kernel
theorem dX9_round_35 : decode mX9_round.2.1 35 = .ok (.bipush 6, 2) := by decide +kernel
theorem dX9_round_37 : decode mX9_round.2.1 37 = .ok (.imul, 1) := by decide +kernel
theorem dX9_round_38 : decode mX9_round.2.1 38 = .ok (.iload_n 2, 1) := by decide +kernel
theorem dX9_round_39 : decode mX9_round.2.1 39 = .ok (.iadd, 1) := by decide +kernel
theorem dX9_round_40 : decode mX9_round.2.1 40 = .ok (.iaload, 1) := by decide +kernel
theorem dX9_round_41 : decode mX9_round.2.1 41 = .ok (.ireturn, 1) := by decide +kernel
theorem bX9_round_0 {E : px_E} {d : Nat} {w : pw_W} {Q : Option Value → pw_W → Prop} {t : ct_T} (hw : w.1 = cs t) {x1 x2 : Int32} (ht1 : is_Hamlet t.1) 
    (k1 : ¬ (pX9_isBrother w t x1) → px_W E mX9_round (d + 2) 0 0 25 [.null, .null, .null] [] w Q)
    (k2 : (pX9_isBrother w t x1) → x2 < 0 → px_W E mX9_round (d + 2) 0 0 25 [.null, .null, .null] [] w Q)
    (k3 : (pX9_isBrother w t x1) → ¬ x2 < 0 → px_W E mX9_round (d + 2) 0 0 12 [.ref 1, .int x1, .int x2] [] w Q) :
    px_W E mX9_round (d + 2) 0 0 0 [.ref 1, .int x1, .int x2] [] w Q := by
  refine px_aload_n dX9_round_0 rfl rfl ?_
  refine px_iload_n dX9_round_1 rfl rfl ?_
  refine px_callV (As := [.int x1]) (st := []) (rc := 0) (rs := 0) (mc := 0) (ms := 0) dX9_round_2 lk_9_145 (px_sh1 hw sh_1) rfl rfl (Nat.le_of_ble_eq_true rfl) (sX9_isBrother (w := w) hw ht1 ?_)
  show px_W E mX9_round (d + 2) 0 0 5 [.ref 1, .int x1, .int x2] [.int (jb (pX9_isBrother w t x1))] w Q
  refine px_jb_eq (tgt := 25) dX9_round_5 (by decide) (fun h1 => ?_) (fun h1 => ?_)
  ·
    exact px_forget (k1 h1) ⟨Or.inl rfl, Or.inl rfl, Or.inl rfl, trivial⟩
  ·
    refine px_iload_n dX9_round_8 rfl rfl ?_
    refine px_if_lt (tgt := 25) dX9_round_9 (by decide) (fun h2 => ?_) (fun h2 => ?_)
    ·
      exact px_forget (k2 h1 h2) ⟨Or.inl rfl, Or.inl rfl, Or.inl rfl, trivial⟩
    ·
      exact (k3 h1 h2)
theorem eX9_round {E : px_E} {d : Nat} {w : pw_W} {Q : Option Value → pw_W → Prop} {t : ct_T} (hw : w.1 = cs t) {x1 x2 : Int32} (ht1 : is_Hamlet t.1) 
    (k1 : ¬ (pX9_isBrother w t x1) → px_W E mX9_round (d + 2) 0 0 25 [.null, .null, .null] [] w Q)
    (k2 : (pX9_isBrother w t x1) → x2 < 0 → px_W E mX9_round (d + 2) 0 0 25 [.null, .null, .null] [] w Q)
    (k3 : (pX9_isBrother w t x1) → ¬ x2 < 0 → px_W E mX9_round (d + 2) 0 0 12 [.ref 1, .int x1, .int x2] [] w Q) :
    px_Call E (d + 2) 0 0 mX9_round [.ref 1, .int x1, .int x2] w Q :=
  px_enter (k := 0) (by decide) (Nat.le_of_ble_eq_true rfl) rfl (px_forget (bX9_round_0 hw ht1 k1 k2 k3) ⟨Or.inr rfl, Or.inr rfl, Or.inr rfl, trivial⟩)
theorem bX9_round_12 {E : px_E} {d : Nat} {w : pw_W} {Q : Option Value → pw_W → Prop} {t : ct_T} (hw : w.1 = cs t) {x1 x2 : Int32} (ht1 : is_Hamlet t.1) (j1 : Nat) (hj1 : x1 = nI j1) (hl1 : j1 < 2)
    (k1 : x2 < (pw_I w (t.1 + 8) j1) → px_W E mX9_round (d + 2) 0 0 27 [.ref 1, .int x1, .int x2] [] w Q)
    (k2 : ¬ x2 < (pw_I w (t.1 + 8) j1) → px_W E mX9_round (d + 2) 0 0 25 [.null, .null, .null] [] w Q) :
    px_W E mX9_round (d + 2) 0 0 12 [.ref 1, .int x1, .int x2] [] w Q := by
  refine px_iload_n dX9_round_12 rfl rfl ?_
  refine px_aload_n dX9_round_13 rfl rfl ?_
  refine px_getR (v := t.1) dX9_round_14 fr_9_20 rfl (px_sh1 hw sh_1) (px_rf hw rf_1_2) ht1.ne ?_
  refine px_getR (v := (t.1 + 8)) dX9_round_17 fr_9_151 rfl (px_sh1 hw ht1.sh) (px_rf hw ht1.rf10) (Nat.succ_ne_zero _) ?_
  refine px_iload_n dX9_round_20 rfl rfl ?_
  refine px_iald dX9_round_21 (px_sh2 hw ht1.sh8) (by decide) j1 hj1 hl1 ?_
  refine px_icmp_lt (tgt := 27) dX9_round_22 (by decide) (fun h1 => ?_) (fun h1 => ?_)
  ·
    exact (k1 h1)
  ·
    exact px_forget (k2 h1) ⟨Or.inl rfl, Or.inl rfl, Or.inl rfl, trivial⟩
theorem bX9_round_25 {E : px_E} {d : Nat} {w : pw_W} {Q : Option Value → pw_W → Prop} {t : ct_T} (hw : w.1 = cs t) (ht1 : is_Hamlet t.1) 
    (k1 : Q (some (.int (-1))) w) :
    px_W E mX9_round (d + 2) 0 0 25 [.null, .null, .null] [] w Q := by
  refine px_iconst dX9_round_25 ic_m1 ?_
  exact px_ireturn dX9_round_26 rfl rfl k1
theorem bX9_round_27 {E : px_E} {d : Nat} {w : pw_W} {Q : Option Value → pw_W → Prop} {t : ct_T} (hw : w.1 = cs t) {x1 x2 : Int32} (ht1 : is_Hamlet t.1) (j1 : Nat) (hj1 : ((x1 * 6) + x2) = nI j1) (hl1 : j1 < 12)
    (k1 : Q (some (.int (pw_I w (t.1 + 9) j1))) w) :
    px_W E mX9_round (d + 2) 0 0 27 [.ref 1, .int x1, .int x2] [] w Q := by
  refine px_aload_n dX9_round_27 rfl rfl ?_
  refine px_getR (v := t.1) dX9_round_28 fr_9_20 rfl (px_sh1 hw sh_1) (px_rf hw rf_1_2) ht1.ne ?_
  refine px_getR (v := (t.1 + 9)) dX9_round_31 fr_9_154 rfl (px_sh1 hw ht1.sh) (px_rf hw ht1.rf11) (Nat.succ_ne_zero _) ?_
  refine px_iload_n dX9_round_34 rfl rfl ?_
  refine px_bipush dX9_round_35 bp_6 ?_
  refine px_imul dX9_round_37 ?_
  refine px_iload_n dX9_round_38 rfl rfl ?_
  refine px_iadd dX9_round_39 ?_
  refine px_iald dX9_round_40 (px_sh2 hw ht1.sh9) (by decide) j1 hj1 hl1 ?_
  exact px_ireturn dX9_round_41 rfl rfl k1
theorem dX9_touch_0 : decode mX9_touch.2.1 0 = .ok (.aload_n 0, 1) := by decide +kernel
theorem dX9_touch_1 : decode mX9_touch.2.1 1 = .ok (.iload_n 1, 1) := by decide +kernel
theorem dX9_touch_2 : decode mX9_touch.2.1 2 = .ok (.invokevirtual 130, 3) := by decide +kernel
theorem dX9_touch_5 : decode mX9_touch.2.1 5 = .ok (.ifCond .eq 10, 3) := by decide +kernel
theorem dX9_touch_8 : decode mX9_touch.2.1 8 = .ok (.iload_n 2, 1) := by decide +kernel
theorem dX9_touch_9 : decode mX9_touch.2.1 9 = .ok (.invokestatic 157, 3) := by decide +kernel
theorem dX9_touch_12 : decode mX9_touch.2.1 12 = .ok (.ifCond .ne 5, 3) := by decide +kernel
theorem dX9_touch_15 : decode mX9_touch.2.1 15 = .ok (.iconst (-1), 1) := by decide +kernel
theorem dX9_touch_16 : decode mX9_touch.2.1 16 = .ok (.ireturn, 1) := by decide +kernel
theorem dX9_touch_17 : decode mX9_touch.2.1 17 = .ok (.iload_n 2, 1) := by decide +kernel
theorem dX9_touch_18 : decode mX9_touch.2.1 18 = .ok (.ifCond .ne 15, 3) := by decide +kernel
theorem dX9_touch_21 : decode mX9_touch.2.1 21 = .ok (.aload_n 0, 1) := by decide +kernel
theorem dX9_touch_22 : decode mX9_touch.2.1 22 = .ok (.getfield 20, 3) := by decide +kernel
theorem dX9_touch_25 : decode mX9_touch.2.1 25 = .ok (.getfield 133, 3) := by decide +kernel
theorem dX9_touch_28 : decode mX9_touch.2.1 28 = .ok (.iload_n 1, 1) := by decide +kernel
theorem dX9_touch_29 : decode mX9_touch.2.1 29 = .ok (.iaload, 1) := by decide +kernel
theorem dX9_touch_30 : decode mX9_touch.2.1 30 = .ok (.goto 12, 3) := by decide +kernel
theorem dX9_touch_33 : decode mX9_touch.2.1 33 = .ok (.aload_n 0, 1) := by decide +kernel
theorem dX9_touch_34 : decode mX9_touch.2.1 34 = .ok (.getfield 20, 3) := by decide +kernel
theorem dX9_touch_37 : decode mX9_touch.2.1 37 = .ok (.getfield 136, 3) := by decide +kernel
theorem dX9_touch_40 : decode mX9_touch.2.1 40 = .ok (.iload_n 1, 1) := by decide +kernel
theorem dX9_touch_41 : decode mX9_touch.2.1 41 = .ok (.iaload, 1) := by decide +kernel
theorem dX9_touch_42 : decode mX9_touch.2.1 42 = .ok (.istore_n 3, 1) := by decide +kernel
theorem dX9_touch_43 : decode mX9_touch.2.1 43 = .ok (.iload_n 2, 1) := by decide +kernel
theorem dX9_touch_44 : decode mX9_touch.2.1 44 = .ok (.ifCond .ne 15, 3) := by decide +kernel
theorem dX9_touch_47 : decode mX9_touch.2.1 47 = .ok (.aload_n 0, 1) := by decide +kernel
theorem dX9_touch_48 : decode mX9_touch.2.1 48 = .ok (.getfield 20, 3) := by decide +kernel
theorem dX9_touch_51 : decode mX9_touch.2.1 51 = .ok (.getfield 136, 3) := by decide +kernel
theorem dX9_touch_54 : decode mX9_touch.2.1 54 = .ok (.iload_n 1, 1) := by decide +kernel
theorem dX9_touch_55 : decode mX9_touch.2.1 55 = .ok (.iaload, 1) := by decide +kernel
theorem dX9_touch_56 : decode mX9_touch.2.1 56 = .ok (.goto 12, 3) := by decide +kernel
theorem dX9_touch_59 : decode mX9_touch.2.1 59 = .ok (.aload_n 0, 1) := by decide +kernel
theorem dX9_touch_60 : decode mX9_touch.2.1 60 = .ok (.getfield 20, 3) := by decide +kernel
theorem dX9_touch_63 : decode mX9_touch.2.1 63 = .ok (.getfield 133, 3) := by decide +kernel
theorem dX9_touch_66 : decode mX9_touch.2.1 66 = .ok (.iload_n 1, 1) := by decide +kernel
theorem dX9_touch_67 : decode mX9_touch.2.1 67 = .ok (.iaload, 1) := by decide +kernel
theorem dX9_touch_68 : decode mX9_touch.2.1 68 = .ok (.istore 4, 2) := by decide +kernel
theorem dX9_touch_70 : decode mX9_touch.2.1 70 = .ok (.aload_n 0, 1) := by decide +kernel
theorem dX9_touch_71 : decode mX9_touch.2.1 71 = .ok (.getfield 20, 3) := by decide +kernel
theorem dX9_touch_74 : decode mX9_touch.2.1 74 = .ok (.getfield 160, 3) := by decide +kernel
theorem dX9_touch_77 : decode mX9_touch.2.1 77 = .ok (.aload_n 0, 1) := by decide +kernel
theorem dX9_touch_78 : decode mX9_touch.2.1 78 = .ok (.getfield 40, 3) := by decide +kernel
theorem dX9_touch_81 : decode mX9_touch.2.1 81 = .ok (.getfield 117, 3) := by decide +kernel
theorem dX9_touch_84 : decode mX9_touch.2.1 84 = .ok (.iload_n 3, 1) := by decide +kernel
theorem dX9_touch_85 : decode mX9_touch.2.1 85 = .ok (.iaload, 1) := by decide +kernel
theorem dX9_touch_86 : decode mX9_touch.2.1 86 = .ok (.aload_n 0, 1) := by decide +kernel
theorem dX9_touch_87 : decode mX9_touch.2.1 87 = .ok (.getfield 40, 3) := by decide +kernel
theorem dX9_touch_90 : decode mX9_touch.2.1 90 = .ok (.getfield 117, 3) := by decide +kernel
theorem dX9_touch_93 : decode mX9_touch.2.1 93 = .ok (.iload 4, 2) := by decide +kernel
theorem dX9_touch_95 : decode mX9_touch.2.1 95 = .ok (.iaload, 1) := by decide +kernel
theorem dX9_touch_96 : decode mX9_touch.2.1 96 = .ok (.aload_n 0, 1) := by decide +kernel
theorem dX9_touch_97 : decode mX9_touch.2.1 97 = .ok (.getfield 40, 3) := by decide +kernel
theorem dX9_touch_100 : decode mX9_touch.2.1 100 = .ok (.getfield 123, 3) := by decide +kernel
theorem dX9_touch_103 : decode mX9_touch.2.1 103 = .ok (.iload_n 3, 1) := by decide +kernel
theorem dX9_touch_104 : decode mX9_touch.2.1 104 = .ok (.iaload, 1) := by decide +kernel
theorem dX9_touch_105 : decode mX9_touch.2.1 105 = .ok (.aload_n 0, 1) := by decide +kernel
theorem dX9_touch_106 : decode mX9_touch.2.1 106 = .ok (.getfield 40, 3) := by decide +kernel
theorem dX9_touch_109 : decode mX9_touch.2.1 109 = .ok (.getfield 164, 3) := by decide +kernel
theorem dX9_touch_112 : decode mX9_touch.2.1 112 = .ok (.invokevirtual 167, 3) := by decide +kernel
theorem dX9_touch_115 : decode mX9_touch.2.1 115 = .ok (.ireturn, 1) := by decide +kernel
theorem bX9_touch_0 {E : px_E} {d : Nat} {w : pw_W} {Q : Option Value → pw_W → Prop} {t : ct_T} (hw : w.1 = cs t) {x1 x2 : Int32} (ht1 : is_Hamlet t.1) 
    (k1 : ¬ (pX9_isMeeting w t x1) → px_W E mX9_touch (d + 2) 0 0 15 [.null, .null, .null, .null, .null] [] w Q)
    (k2 : (pX9_isMeeting w t x1) → (pX9_isZeroOrOne x2) → ¬ x2 = 0 → px_W E mX9_touch (d + 2) 0 0 33 [.ref 1, .int x1, .int x2, .null, .null] [] w Q)
    (k3 : (pX9_isMeeting w t x1) → (pX9_isZeroOrOne x2) → x2 = 0 → px_W E mX9_touch (d + 2) 0 0 21 [.ref 1, .int x1, .int x2, .null, .null] [] w Q)
    (k4 : (pX9_isMeeting w t x1) → ¬ (pX9_isZeroOrOne x2) → px_W E mX9_touch (d + 2) 0 0 15 [.null, .null, .null, .null, .null] [] w Q) :
    px_W E mX9_touch (d + 2) 0 0 0 [.ref 1, .int x1, .int x2, .null, .null] [] w Q := by
  refine px_aload_n dX9_touch_0 rfl rfl ?_
  refine px_iload_n dX9_touch_1 rfl rfl ?_
  refine px_callV (As := [.int x1]) (st := []) (rc := 0) (rs := 0) (mc := 0) (ms := 0) dX9_touch_2 lk_9_130 (px_sh1 hw sh_1) rfl rfl (Nat.le_of_ble_eq_true rfl) (sX9_isMeeting (w := w) hw ht1 ?_)
  show px_W E mX9_touch (d + 2) 0 0 5 [.ref 1, .int x1, .int x2, .null, .null] [.int (jb (pX9_isMeeting w t x1))] w Q
  refine px_jb_eq (tgt := 15) dX9_touch_5 (by decide) (fun h1 => ?_) (fun h1 => ?_)
  ·
    exact px_forget (k1 h1) ⟨Or.inl rfl, Or.inl rfl, Or.inl rfl, Or.inl rfl, Or.inl rfl, trivial⟩
  ·
    refine px_iload_n dX9_touch_8 rfl rfl ?_
    refine px_callS (As := [.int x2]) (st := []) (rc := 0) (rs := 0) (mc := 0) (ms := 0) dX9_touch_9 lk_9_157 rfl rfl (Nat.le_of_ble_eq_true rfl) (sX9_isZeroOrOne ?_)
    show px_W E mX9_touch (d + 2) 0 0 12 [.ref 1, .int x1, .int x2, .null, .null] [.int (jb (pX9_isZeroOrOne x2))] w Q
    refine px_jb_ne (tgt := 17) dX9_touch_12 (by decide) (fun h2 => ?_) (fun h2 => ?_)
    ·
      refine px_iload_n dX9_touch_17 rfl rfl ?_
      refine px_if_ne (tgt := 33) dX9_touch_18 (by decide) (fun h3 => ?_) (fun h3 => ?_)
      ·
        exact (k2 h1 h2 h3)
      ·
        exact (k3 h1 h2 h3)
    ·
      exact px_forget (k4 h1 h2) ⟨Or.inl rfl, Or.inl rfl, Or.inl rfl, Or.inl rfl, Or.inl rfl, trivial⟩
theorem eX9_touch {E : px_E} {d : Nat} {w : pw_W} {Q : Option Value → pw_W → Prop} {t : ct_T} (hw : w.1 = cs t) {x1 x2 : Int32} (ht1 : is_Hamlet t.1) 
    (k1 : ¬ (pX9_isMeeting w t x1) → px_W E mX9_touch (d + 2) 0 0 15 [.null, .null, .null, .null, .null] [] w Q)
    (k2 : (pX9_isMeeting w t x1) → (pX9_isZeroOrOne x2) → ¬ x2 = 0 → px_W E mX9_touch (d + 2) 0 0 33 [.ref 1, .int x1, .int x2, .null, .null] [] w Q)
    (k3 : (pX9_isMeeting w t x1) → (pX9_isZeroOrOne x2) → x2 = 0 → px_W E mX9_touch (d + 2) 0 0 21 [.ref 1, .int x1, .int x2, .null, .null] [] w Q)
    (k4 : (pX9_isMeeting w t x1) → ¬ (pX9_isZeroOrOne x2) → px_W E mX9_touch (d + 2) 0 0 15 [.null, .null, .null, .null, .null] [] w Q) :
    px_Call E (d + 2) 0 0 mX9_touch [.ref 1, .int x1, .int x2] w Q :=
  px_enter (k := 2) (by decide) (Nat.le_of_ble_eq_true rfl) rfl (px_forget (bX9_touch_0 hw ht1 k1 k2 k3 k4) ⟨Or.inr rfl, Or.inr rfl, Or.inr rfl, Or.inl rfl, Or.inl rfl, trivial⟩)
theorem bX9_touch_15 {E : px_E} {d : Nat} {w : pw_W} {Q : Option Value → pw_W → Prop} {t : ct_T} (hw : w.1 = cs t) (ht1 : is_Hamlet t.1) 
    (k1 : Q (some (.int (-1))) w) :
    px_W E mX9_touch (d + 2) 0 0 15 [.null, .null, .null, .null, .null] [] w Q := by
  refine px_iconst dX9_touch_15 ic_m1 ?_
  exact px_ireturn dX9_touch_16 rfl rfl k1
theorem bX9_touch_21 {E : px_E} {d : Nat} {w : pw_W} {Q : Option Value → pw_W → Prop} {t : ct_T} (hw : w.1 = cs t) {x1 x2 : Int32} (ht1 : is_Hamlet t.1) (j1 : Nat) (hj1 : x1 = nI j1) (hl1 : j1 < 9)
    (k1 : px_W E mX9_touch (d + 2) 0 0 42 [.ref 1, .int x1, .int x2, .null, .null] [.int (pw_I w (t.1 + 4) j1)] w Q) :
    px_W E mX9_touch (d + 2) 0 0 21 [.ref 1, .int x1, .int x2, .null, .null] [] w Q := by
  refine px_aload_n dX9_touch_21 rfl rfl ?_
  refine px_getR (v := t.1) dX9_touch_22 fr_9_20 rfl (px_sh1 hw sh_1) (px_rf hw rf_1_2) ht1.ne ?_
  refine px_getR (v := (t.1 + 4)) dX9_touch_25 fr_9_133 rfl (px_sh1 hw ht1.sh) (px_rf hw ht1.rf5) (Nat.succ_ne_zero _) ?_
  refine px_iload_n dX9_touch_28 rfl rfl ?_
  refine px_iald dX9_touch_29 (px_sh2 hw ht1.sh4) (by decide) j1 hj1 hl1 ?_
  refine px_goto (tgt := 42) dX9_touch_30 (by decide) ?_
  exact k1
theorem bX9_touch_33 {E : px_E} {d : Nat} {w : pw_W} {Q : Option Value → pw_W → Prop} {t : ct_T} (hw : w.1 = cs t) {x1 x2 : Int32} (ht1 : is_Hamlet t.1) (j1 : Nat) (hj1 : x1 = nI j1) (hl1 : j1 < 9)
    (k1 : px_W E mX9_touch (d + 2) 0 0 42 [.ref 1, .int x1, .int x2, .null, .null] [.int (pw_I w (t.1 + 5) j1)] w Q) :
    px_W E mX9_touch (d + 2) 0 0 33 [.ref 1, .int x1, .int x2, .null, .null] [] w Q := by
  refine px_aload_n dX9_touch_33 rfl rfl ?_
  refine px_getR (v := t.1) dX9_touch_34 fr_9_20 rfl (px_sh1 hw sh_1) (px_rf hw rf_1_2) ht1.ne ?_
  refine px_getR (v := (t.1 + 5)) dX9_touch_37 fr_9_136 rfl (px_sh1 hw ht1.sh) (px_rf hw ht1.rf6) (Nat.succ_ne_zero _) ?_
  refine px_iload_n dX9_touch_40 rfl rfl ?_
  refine px_iald dX9_touch_41 (px_sh2 hw ht1.sh5) (by decide) j1 hj1 hl1 ?_
  exact k1
theorem bX9_touch_42 {E : px_E} {d : Nat} {w : pw_W} {Q : Option Value → pw_W → Prop} {t : ct_T} (hw : w.1 = cs t) {x1 x2 y0 : Int32} (ht1 : is_Hamlet t.1) 
    (k1 : ¬ x2 = 0 → px_W E mX9_touch (d + 2) 0 0 59 [.ref 1, .int x1, .null, .int y0, .null] [] w Q)
    (k2 : x2 = 0 → px_W E mX9_touch (d + 2) 0 0 47 [.ref 1, .int x1, .null, .int y0, .null] [] w Q) :
    px_W E mX9_touch (d + 2) 0 0 42 [.ref 1, .int x1, .int x2, .null, .null] [.int y0] w Q := by
  refine px_istore_n (ls' := [.ref 1, .int x1, .int x2, .int y0, .null]) dX9_touch_42 rfl ⟨by decide, rfl⟩ rfl ?_
  refine px_iload_n dX9_touch_43 rfl rfl ?_
  refine px_if_ne (tgt := 59) dX9_touch_44 (by decide) (fun h1 => ?_) (fun h1 => ?_)
  ·
    exact px_forget (k1 h1) ⟨Or.inr rfl, Or.inr rfl, Or.inl rfl, Or.inr rfl, Or.inl rfl, trivial⟩
  ·
    exact px_forget (k2 h1) ⟨Or.inr rfl, Or.inr rfl, Or.inl rfl, Or.inr rfl, Or.inl rfl, trivial⟩
theorem bX9_touch_47 {E : px_E} {d : Nat} {w : pw_W} {Q : Option Value → pw_W → Prop} {t : ct_T} (hw : w.1 = cs t) {x1 x3 : Int32} (ht1 : is_Hamlet t.1) (j1 : Nat) (hj1 : x1 = nI j1) (hl1 : j1 < 9)
    (k1 : px_W E mX9_touch (d + 2) 0 0 68 [.ref 1, .null, .null, .int x3, .null] [.int (pw_I w (t.1 + 5) j1)] w Q) :
    px_W E mX9_touch (d + 2) 0 0 47 [.ref 1, .int x1, .null, .int x3, .null] [] w Q := by
  refine px_aload_n dX9_touch_47 rfl rfl ?_
  refine px_getR (v := t.1) dX9_touch_48 fr_9_20 rfl (px_sh1 hw sh_1) (px_rf hw rf_1_2) ht1.ne ?_
  refine px_getR (v := (t.1 + 5)) dX9_touch_51 fr_9_136 rfl (px_sh1 hw ht1.sh) (px_rf hw ht1.rf6) (Nat.succ_ne_zero _) ?_
  refine px_iload_n dX9_touch_54 rfl rfl ?_
  refine px_iald dX9_touch_55 (px_sh2 hw ht1.sh5) (by decide) j1 hj1 hl1 ?_
  refine px_goto (tgt := 68) dX9_touch_56 (by decide) ?_
  exact px_forget k1 ⟨Or.inr rfl, Or.inl rfl, Or.inl rfl, Or.inr rfl, Or.inl rfl, trivial⟩
theorem bX9_touch_59 {E : px_E} {d : Nat} {w : pw_W} {Q : Option Value → pw_W → Prop} {t : ct_T} (hw : w.1 = cs t) {x1 x3 : Int32} (ht1 : is_Hamlet t.1) (j1 : Nat) (hj1 : x1 = nI j1) (hl1 : j1 < 9)
    (k1 : px_W E mX9_touch (d + 2) 0 0 68 [.ref 1, .null, .null, .int x3, .null] [.int (pw_I w (t.1 + 4) j1)] w Q) :
    px_W E mX9_touch (d + 2) 0 0 59 [.ref 1, .int x1, .null, .int x3, .null] [] w Q := by
  refine px_aload_n dX9_touch_59 rfl rfl ?_
  refine px_getR (v := t.1) dX9_touch_60 fr_9_20 rfl (px_sh1 hw sh_1) (px_rf hw rf_1_2) ht1.ne ?_
  refine px_getR (v := (t.1 + 4)) dX9_touch_63 fr_9_133 rfl (px_sh1 hw ht1.sh) (px_rf hw ht1.rf5) (Nat.succ_ne_zero _) ?_
  refine px_iload_n dX9_touch_66 rfl rfl ?_
  refine px_iald dX9_touch_67 (px_sh2 hw ht1.sh4) (by decide) j1 hj1 hl1 ?_
  exact px_forget k1 ⟨Or.inr rfl, Or.inl rfl, Or.inl rfl, Or.inr rfl, Or.inl rfl, trivial⟩
theorem bX9_touch_68 {E : px_E} {d : Nat} {w : pw_W} {Q : Option Value → pw_W → Prop} {t : ct_T} (hw : w.1 = cs t) {x3 y0 : Int32} (ht1 : is_Hamlet t.1) (j1 : Nat) (hj1 : x3 = nI j1) (hl1 : j1 < 6) (j2 : Nat) (hj2 : y0 = nI j2) (hl2 : j2 < 6)
    (k1 : px_Call E (d + 1) 0 0 mX1_lumpsLeft [.ref (t.1 + 10), .int (pw_I w 37 j1), .int (pw_I w 37 j2), .int (pw_I w 36 j1), .int (pw_I w 35 3)] w (fun v w' => px_W E mX9_touch (d + 2) 0 0 115 [.null, .null, .null, .null, .null] (v.toList ++ []) w' Q)) :
    px_W E mX9_touch (d + 2) 0 0 68 [.ref 1, .null, .null, .int x3, .null] [.int y0] w Q := by
  refine px_istore (ls' := [.ref 1, .null, .null, .int x3, .int y0]) dX9_touch_68 ⟨by decide, rfl⟩ rfl ?_
  refine px_aload_n dX9_touch_70 rfl rfl ?_
  refine px_getR (v := t.1) dX9_touch_71 fr_9_20 rfl (px_sh1 hw sh_1) (px_rf hw rf_1_2) ht1.ne ?_
  refine px_getR (v := (t.1 + 10)) dX9_touch_74 fr_9_160 rfl (px_sh1 hw ht1.sh) (px_rf hw ht1.rf15) (Nat.succ_ne_zero _) ?_
  refine px_aload_n dX9_touch_77 rfl rfl ?_
  refine px_getR (v := 35) dX9_touch_78 fr_9_40 rfl (px_sh1 hw sh_1) (px_rf hw rf_1_6) (by decide) ?_
  refine px_getR (v := 37) dX9_touch_81 fr_9_117 rfl (px_sh1 hw sh_35) (px_rf hw rf_35_1) (by decide) ?_
  refine px_iload_n dX9_touch_84 rfl rfl ?_
  refine px_iald dX9_touch_85 (px_sh2 hw sh_37) (by decide) j1 hj1 hl1 ?_
  refine px_aload_n dX9_touch_86 rfl rfl ?_
  refine px_getR (v := 35) dX9_touch_87 fr_9_40 rfl (px_sh1 hw sh_1) (px_rf hw rf_1_6) (by decide) ?_
  refine px_getR (v := 37) dX9_touch_90 fr_9_117 rfl (px_sh1 hw sh_35) (px_rf hw rf_35_1) (by decide) ?_
  refine px_iload dX9_touch_93 rfl ?_
  refine px_iald dX9_touch_95 (px_sh2 hw sh_37) (by decide) j2 hj2 hl2 ?_
  refine px_aload_n dX9_touch_96 rfl rfl ?_
  refine px_getR (v := 35) dX9_touch_97 fr_9_40 rfl (px_sh1 hw sh_1) (px_rf hw rf_1_6) (by decide) ?_
  refine px_getR (v := 36) dX9_touch_100 fr_9_123 rfl (px_sh1 hw sh_35) (px_rf hw rf_35_0) (by decide) ?_
  refine px_iload_n dX9_touch_103 rfl rfl ?_
  refine px_iald dX9_touch_104 (px_sh2 hw sh_36) (by decide) j1 hj1 hl1 ?_
  refine px_aload_n dX9_touch_105 rfl rfl ?_
  refine px_getR (v := 35) dX9_touch_106 fr_9_40 rfl (px_sh1 hw sh_1) (px_rf hw rf_1_6) (by decide) ?_
  refine px_getI dX9_touch_109 fr_9_164 rfl (px_sh1 hw sh_35) ?_
  refine px_forget (ls' := [.null, .null, .null, .null, .null]) ?_ ⟨Or.inl rfl, Or.inl rfl, Or.inl rfl, Or.inl rfl, Or.inl rfl, trivial⟩
  exact px_callV (As := [.int (pw_I w 37 j1), .int (pw_I w 37 j2), .int (pw_I w 36 j1), .int (pw_I w 35 3)]) (st := []) (rc := 0) (rs := 0) (mc := 0) (ms := 0) dX9_touch_112 lk_9_167 (px_sh1 hw ht1.is10.sh) rfl rfl (Nat.le_of_ble_eq_true rfl) k1
theorem bX9_touch_115 {E : px_E} {d : Nat} {w : pw_W} {Q : Option Value → pw_W → Prop} {t : ct_T} (hw : w.1 = cs t) {y0 : Int32} (ht1 : is_Hamlet t.1) 
    (k1 : Q (some (.int y0)) w) :
    px_W E mX9_touch (d + 2) 0 0 115 [.null, .null, .null, .null, .null] [.int y0] w Q := by
  exact px_ireturn dX9_touch_115 rfl rfl k1
theorem dX9_abed_0 : decode mX9_abed.2.1 0 = .ok (.aload_n 0, 1) := by decide +kernel
theorem dX9_abed_1 : decode mX9_abed.2.1 1 = .ok (.getfield 20, 3) := by decide +kernel
theorem dX9_abed_4 : decode mX9_abed.2.1 4 = .ok (.aload_n 0, 1) := by decide +kernel
theorem dX9_abed_5 : decode mX9_abed.2.1 5 = .ok (.getfield 40, 3) := by decide +kernel
theorem dX9_abed_8 : decode mX9_abed.2.1 8 = .ok (.invokevirtual 173, 3) := by decide +kernel
theorem dX9_abed_11 : decode mX9_abed.2.1 11 = .ok (.ireturn, 1) := by decide +kernel
theorem bX9_abed_0 {E : px_E} {d : Nat} {w : pw_W} {Q : Option Value → pw_W → Prop} {t : ct_T} (hw : w.1 = cs t) (ht1 : is_Hamlet t.1) 
    (k1 : px_Call E d 0 0 mX2_abedBits [.ref t.1, .ref 35] w (fun v w' => px_W E mX9_abed (d + 1) 0 0 11 [.null] (v.toList ++ []) w' Q)) :
    px_W E mX9_abed (d + 1) 0 0 0 [.ref 1] [] w Q := by
  refine px_aload_n dX9_abed_0 rfl rfl ?_
  refine px_getR (v := t.1) dX9_abed_1 fr_9_20 rfl (px_sh1 hw sh_1) (px_rf hw rf_1_2) ht1.ne ?_
  refine px_aload_n dX9_abed_4 rfl rfl ?_
  refine px_getR (v := 35) dX9_abed_5 fr_9_40 rfl (px_sh1 hw sh_1) (px_rf hw rf_1_6) (by decide) ?_
  refine px_forget (ls' := [.null]) ?_ ⟨Or.inl rfl, trivial⟩
  exact px_callV (As := [.ref 35]) (st := []) (rc := 0) (rs := 0) (mc := 0) (ms := 0) dX9_abed_8 lk_9_173 (px_sh1 hw ht1.sh) rfl rfl (Nat.le_of_ble_eq_true rfl) k1
theorem eX9_abed {E : px_E} {d : Nat} {w : pw_W} {Q : Option Value → pw_W → Prop} {t : ct_T} (hw : w.1 = cs t) (ht1 : is_Hamlet t.1) 
    (k1 : px_Call E d 0 0 mX2_abedBits [.ref t.1, .ref 35] w (fun v w' => px_W E mX9_abed (d + 1) 0 0 11 [.null] (v.toList ++ []) w' Q)) :
    px_Call E (d + 1) 0 0 mX9_abed [.ref 1] w Q :=
  px_enter (k := 0) (by decide) (Nat.le_of_ble_eq_true rfl) rfl (px_forget (bX9_abed_0 hw ht1 k1) ⟨Or.inr rfl, trivial⟩)
theorem bX9_abed_11 {E : px_E} {d : Nat} {w : pw_W} {Q : Option Value → pw_W → Prop} {t : ct_T} (hw : w.1 = cs t) {y0 : Int32} (ht1 : is_Hamlet t.1) 
    (k1 : Q (some (.int y0)) w) :
    px_W E mX9_abed (d + 1) 0 0 11 [.null] [.int y0] w Q := by
  exact px_ireturn dX9_abed_11 rfl rfl k1
theorem dX9_day_0 : decode mX9_day.2.1 0 = .ok (.aload_n 0, 1) := by decide +kernel
theorem dX9_day_1 : decode mX9_day.2.1 1 = .ok (.getfield 40, 3) := by decide +kernel
theorem dX9_day_4 : decode mX9_day.2.1 4 = .ok (.getfield 164, 3) := by decide +kernel
theorem dX9_day_7 : decode mX9_day.2.1 7 = .ok (.sipush 999, 3) := by decide +kernel
theorem dX9_day_10 : decode mX9_day.2.1 10 = .ok (.if_icmp .lt 5, 3) := by decide +kernel
theorem dX9_day_13 : decode mX9_day.2.1 13 = .ok (.iconst (-1), 1) := by decide +kernel
theorem dX9_day_14 : decode mX9_day.2.1 14 = .ok (.ireturn, 1) := by decide +kernel
theorem dX9_day_15 : decode mX9_day.2.1 15 = .ok (.aload_n 0, 1) := by decide +kernel
theorem dX9_day_16 : decode mX9_day.2.1 16 = .ok (.getfield 20, 3) := by decide +kernel
theorem dX9_day_19 : decode mX9_day.2.1 19 = .ok (.aload_n 0, 1) := by decide +kernel
theorem dX9_day_20 : decode mX9_day.2.1 20 = .ok (.getfield 40, 3) := by decide +kernel
theorem dX9_day_23 : decode mX9_day.2.1 23 = .ok (.aload_n 0, 1) := by decide +kernel
theorem dX9_day_24 : decode mX9_day.2.1 24 = .ok (.getfield 20, 3) := by decide +kernel
theorem dX9_day_27 : decode mX9_day.2.1 27 = .ok (.getfield 154, 3) := by decide +kernel
theorem dX9_day_30 : decode mX9_day.2.1 30 = .ok (.iconst 1, 1) := by decide +kernel
theorem dX9_day_31 : decode mX9_day.2.1 31 = .ok (.invokevirtual 177, 3) := by decide +kernel
theorem dX9_day_34 : decode mX9_day.2.1 34 = .ok (.istore_n 1, 1) := by decide +kernel
theorem dX9_day_35 : decode mX9_day.2.1 35 = .ok (.aload_n 0, 1) := by decide +kernel
theorem dX9_day_36 : decode mX9_day.2.1 36 = .ok (.getfield 47, 3) := by decide +kernel
theorem dX9_day_39 : decode mX9_day.2.1 39 = .ok (.aload_n 0, 1) := by decide +kernel
theorem dX9_day_40 : decode mX9_day.2.1 40 = .ok (.getfield 40, 3) := by decide +kernel
theorem dX9_day_43 : decode mX9_day.2.1 43 = .ok (.invokevirtual 181, 3) := by decide +kernel
theorem dX9_day_46 : decode mX9_day.2.1 46 = .ok (.iload_n 1, 1) := by decide +kernel
theorem dX9_day_47 : decode mX9_day.2.1 47 = .ok (.ireturn, 1) := by decide +kernel
theorem bX9_day_0 {E : px_E} {d : Nat} {w : pw_W} {Q : Option Value → pw_W → Prop} {t : ct_T} (hw : w.1 = cs t) (ht1 : is_Hamlet t.1) 
    (k1 : (pw_I w 35 3) < 999 → px_Call E d 0 0 mX2_passDay [.ref t.1, .ref 35, .ref (t.1 + 9), .int 1] w (fun v w' => px_W E mX9_day (d + 1) 0 0 34 [.ref 1, .null] (v.toList ++ []) w' Q))
    (k2 : ¬ (pw_I w 35 3) < 999 → Q (some (.int (-1))) w) :
    px_W E mX9_day (d + 1) 0 0 0 [.ref 1, .null] [] w Q := by
  refine px_aload_n dX9_day_0 rfl rfl ?_
  refine px_getR (v := 35) dX9_day_1 fr_9_40 rfl (px_sh1 hw sh_1) (px_rf hw rf_1_6) (by decide) ?_
  refine px_getI dX9_day_4 fr_9_164 rfl (px_sh1 hw sh_35) ?_
  refine px_sipush dX9_day_7 sp_999 ?_
  refine px_icmp_lt (tgt := 15) dX9_day_10 (by decide) (fun h1 => ?_) (fun h1 => ?_)
  ·
    refine px_aload_n dX9_day_15 rfl rfl ?_
    refine px_getR (v := t.1) dX9_day_16 fr_9_20 rfl (px_sh1 hw sh_1) (px_rf hw rf_1_2) ht1.ne ?_
    refine px_aload_n dX9_day_19 rfl rfl ?_
    refine px_getR (v := 35) dX9_day_20 fr_9_40 rfl (px_sh1 hw sh_1) (px_rf hw rf_1_6) (by decide) ?_
    refine px_aload_n dX9_day_23 rfl rfl ?_
    refine px_getR (v := t.1) dX9_day_24 fr_9_20 rfl (px_sh1 hw sh_1) (px_rf hw rf_1_2) ht1.ne ?_
    refine px_getR (v := (t.1 + 9)) dX9_day_27 fr_9_154 rfl (px_sh1 hw ht1.sh) (px_rf hw ht1.rf11) (Nat.succ_ne_zero _) ?_
    refine px_iconst dX9_day_30 ic_1 ?_
    exact px_callV (As := [.ref 35, .ref (t.1 + 9), .int 1]) (st := []) (rc := 0) (rs := 0) (mc := 0) (ms := 0) dX9_day_31 lk_9_177 (px_sh1 hw ht1.sh) rfl rfl (Nat.le_of_ble_eq_true rfl) (k1 h1)
  ·
    refine px_iconst dX9_day_13 ic_m1 ?_
    exact px_ireturn dX9_day_14 rfl rfl (k2 h1)
theorem eX9_day {E : px_E} {d : Nat} {w : pw_W} {Q : Option Value → pw_W → Prop} {t : ct_T} (hw : w.1 = cs t) (ht1 : is_Hamlet t.1) 
    (k1 : (pw_I w 35 3) < 999 → px_Call E d 0 0 mX2_passDay [.ref t.1, .ref 35, .ref (t.1 + 9), .int 1] w (fun v w' => px_W E mX9_day (d + 1) 0 0 34 [.ref 1, .null] (v.toList ++ []) w' Q))
    (k2 : ¬ (pw_I w 35 3) < 999 → Q (some (.int (-1))) w) :
    px_Call E (d + 1) 0 0 mX9_day [.ref 1] w Q :=
  px_enter (k := 1) (by decide) (Nat.le_of_ble_eq_true rfl) rfl (px_forget (bX9_day_0 hw ht1 k1 k2) ⟨Or.inr rfl, Or.inl rfl, trivial⟩)
theorem bX9_day_34 {E : px_E} {d : Nat} {w : pw_W} {Q : Option Value → pw_W → Prop} {t : ct_T} (hw : w.1 = cs t) {y0 : Int32} (ht1 : is_Hamlet t.1) 
    (k1 : px_Call E d 0 0 mX3_keepAct [.ref 38, .ref 35] w (fun v w' => px_W E mX9_day (d + 1) 0 0 46 [.null, .int y0] (v.toList ++ []) w' Q)) :
    px_W E mX9_day (d + 1) 0 0 34 [.ref 1, .null] [.int y0] w Q := by
  refine px_istore_n (ls' := [.ref 1, .int y0]) dX9_day_34 rfl ⟨by decide, rfl⟩ rfl ?_
  refine px_aload_n dX9_day_35 rfl rfl ?_
  refine px_getR (v := 38) dX9_day_36 fr_9_47 rfl (px_sh1 hw sh_1) (px_rf hw rf_1_7) (by decide) ?_
  refine px_aload_n dX9_day_39 rfl rfl ?_
  refine px_getR (v := 35) dX9_day_40 fr_9_40 rfl (px_sh1 hw sh_1) (px_rf hw rf_1_6) (by decide) ?_
  refine px_forget (ls' := [.null, .int y0]) ?_ ⟨Or.inl rfl, Or.inr rfl, trivial⟩
  exact px_callV (As := [.ref 35]) (st := []) (rc := 0) (rs := 0) (mc := 0) (ms := 0) dX9_day_43 lk_9_181 (px_sh1 hw sh_38) rfl rfl (Nat.le_of_ble_eq_true rfl) k1
theorem bX9_day_46 {E : px_E} {d : Nat} {w : pw_W} {Q : Option Value → pw_W → Prop} {t : ct_T} (hw : w.1 = cs t) {x1 : Int32} (ht1 : is_Hamlet t.1) 
    (k1 : Q (some (.int x1)) w) :
    px_W E mX9_day (d + 1) 0 0 46 [.null, .int x1] [] w Q := by
  refine px_iload_n dX9_day_46 rfl rfl ?_
  exact px_ireturn dX9_day_47 rfl rfl k1
theorem dX9_lesson_0 : decode mX9_lesson.2.1 0 = .ok (.aload_n 0, 1) := by decide +kernel
theorem dX9_lesson_1 : decode mX9_lesson.2.1 1 = .ok (.iload_n 1, 1) := by decide +kernel
theorem dX9_lesson_2 : decode mX9_lesson.2.1 2 = .ok (.invokevirtual 113, 3) := by decide +kernel
theorem dX9_lesson_5 : decode mX9_lesson.2.1 5 = .ok (.ifCond .eq 17, 3) := by decide +kernel
theorem dX9_lesson_8 : decode mX9_lesson.2.1 8 = .ok (.aload_n 0, 1) := by decide +kernel
theorem dX9_lesson_9 : decode mX9_lesson.2.1 9 = .ok (.getfield 40, 3) := by decide +kernel
theorem dX9_lesson_12 : decode mX9_lesson.2.1 12 = .ok (.getfield 117, 3) := by decide +kernel
theorem dX9_lesson_15 : decode mX9_lesson.2.1 15 = .ok (.iload_n 1, 1) := by decide +kernel
theorem dX9_lesson_16 : decode mX9_lesson.2.1 16 = .ok (.iaload, 1) := by decide +kernel
theorem dX9_lesson_17 : decode mX9_lesson.2.1 17 = .ok (.bipush 30, 2) := by decide +kernel
theorem dX9_lesson_19 : decode mX9_lesson.2.1 19 = .ok (.if_icmp .lt 5, 3) := by decide +kernel
theorem dX9_lesson_22 : decode mX9_lesson.2.1 22 = .ok (.iconst (-1), 1) := by decide +kernel
theorem dX9_lesson_23 : decode mX9_lesson.2.1 23 = .ok (.ireturn, 1) := by decide +kernel
theorem dX9_lesson_24 : decode mX9_lesson.2.1 24 = .ok (.aload_n 0, 1) := by decide +kernel
theorem dX9_lesson_25 : decode mX9_lesson.2.1 25 = .ok (.getfield 40, 3) := by decide +kernel
theorem dX9_lesson_28 : decode mX9_lesson.2.1 28 = .ok (.getfield 117, 3) := by decide +kernel
theorem dX9_lesson_31 : decode mX9_lesson.2.1 31 = .ok (.iload_n 1, 1) := by decide +kernel
theorem dX9_lesson_32 : decode mX9_lesson.2.1 32 = .ok (.dup2, 1) := by decide +kernel
theorem dX9_lesson_33 : decode mX9_lesson.2.1 33 = .ok (.iaload, 1) := by decide +kernel
theorem dX9_lesson_34 : decode mX9_lesson.2.1 34 = .ok (.iconst 1, 1) := by decide +kernel
theorem dX9_lesson_35 : decode mX9_lesson.2.1 35 = .ok (.iadd, 1) := by decide +kernel
theorem dX9_lesson_36 : decode mX9_lesson.2.1 36 = .ok (.iastore, 1) := by decide +kernel
theorem dX9_lesson_37 : decode mX9_lesson.2.1 37 = .ok (.aload_n 0, 1) := by decide +kernel
theorem dX9_lesson_38 : decode mX9_lesson.2.1 38 = .ok (.getfield 47, 3) := by decide +kernel
theorem dX9_lesson_41 : decode mX9_lesson.2.1 41 = .ok (.aload_n 0, 1) := by decide +kernel
theorem dX9_lesson_42 : decode mX9_lesson.2.1 42 = .ok (.getfield 40, 3) := by decide +kernel
theorem dX9_lesson_45 : decode mX9_lesson.2.1 45 = .ok (.invokevirtual 181, 3) := by decide +kernel
theorem dX9_lesson_48 : decode mX9_lesson.2.1 48 = .ok (.aload_n 0, 1) := by decide +kernel
theorem dX9_lesson_49 : decode mX9_lesson.2.1 49 = .ok (.getfield 40, 3) := by decide +kernel
theorem dX9_lesson_52 : decode mX9_lesson.2.1 52 = .ok (.getfield 117, 3) := by decide +kernel
theorem dX9_lesson_55 : decode mX9_lesson.2.1 55 = .ok (.iload_n 1, 1) := by decide +kernel
theorem dX9_lesson_56 : decode mX9_lesson.2.1 56 = .ok (.iaload, 1) := by decide +kernel
theorem dX9_lesson_57 : decode mX9_lesson.2.1 57 = .ok (.ireturn, 1) := by decide +kernel
theorem bX9_lesson_0 {E : px_E} {d : Nat} {w : pw_W} {Q : Option Value → pw_W → Prop} {t : ct_T} (hw : w.1 = cs t) {x1 : Int32} (ht1 : is_Hamlet t.1) 
    (k1 : ¬ (pX9_isPerson w t x1) → px_W E mX9_lesson (d + 2) 0 0 22 [.null, .null] [] w Q)
    (k2 : (pX9_isPerson w t x1) → px_W E mX9_lesson (d + 2) 0 0 8 [.ref 1, .int x1] [] w Q) :
    px_W E mX9_lesson (d + 2) 0 0 0 [.ref 1, .int x1] [] w Q := by
  refine px_aload_n dX9_lesson_0 rfl rfl ?_
  refine px_iload_n dX9_lesson_1 rfl rfl ?_
  refine px_callV (As := [.int x1]) (st := []) (rc := 0) (rs := 0) (mc := 0) (ms := 0) dX9_lesson_2 lk_9_113 (px_sh1 hw sh_1) rfl rfl (Nat.le_of_ble_eq_true rfl) (sX9_isPerson (w := w) hw ht1 ?_)
  show px_W E mX9_lesson (d + 2) 0 0 5 [.ref 1, .int x1] [.int (jb (pX9_isPerson w t x1))] w Q
  refine px_jb_eq (tgt := 22) dX9_lesson_5 (by decide) (fun h1 => ?_) (fun h1 => ?_)
  ·
    exact px_forget (k1 h1) ⟨Or.inl rfl, Or.inl rfl, trivial⟩
  ·
    exact (k2 h1)
theorem eX9_lesson {E : px_E} {d : Nat} {w : pw_W} {Q : Option Value → pw_W → Prop} {t : ct_T} (hw : w.1 = cs t) {x1 : Int32} (ht1 : is_Hamlet t.1) 
    (k1 : ¬ (pX9_isPerson w t x1) → px_W E mX9_lesson (d + 2) 0 0 22 [.null, .null] [] w Q)
    (k2 : (pX9_isPerson w t x1) → px_W E mX9_lesson (d + 2) 0 0 8 [.ref 1, .int x1] [] w Q) :
    px_Call E (d + 2) 0 0 mX9_lesson [.ref 1, .int x1] w Q :=
  px_enter (k := 0) (by decide) (Nat.le_of_ble_eq_true rfl) rfl (px_forget (bX9_lesson_0 hw ht1 k1 k2) ⟨Or.inr rfl, Or.inr rfl, trivial⟩)
theorem bX9_lesson_8 {E : px_E} {d : Nat} {w : pw_W} {Q : Option Value → pw_W → Prop} {t : ct_T} (hw : w.1 = cs t) {x1 : Int32} (ht1 : is_Hamlet t.1) (j1 : Nat) (hj1 : x1 = nI j1) (hl1 : j1 < 6)
    (k1 : (pw_I w 37 j1) < 30 → px_W E mX9_lesson (d + 2) 0 0 24 [.ref 1, .int x1] [] w Q)
    (k2 : ¬ (pw_I w 37 j1) < 30 → px_W E mX9_lesson (d + 2) 0 0 22 [.null, .null] [] w Q) :
    px_W E mX9_lesson (d + 2) 0 0 8 [.ref 1, .int x1] [] w Q := by
  refine px_aload_n dX9_lesson_8 rfl rfl ?_
  refine px_getR (v := 35) dX9_lesson_9 fr_9_40 rfl (px_sh1 hw sh_1) (px_rf hw rf_1_6) (by decide) ?_
  refine px_getR (v := 37) dX9_lesson_12 fr_9_117 rfl (px_sh1 hw sh_35) (px_rf hw rf_35_1) (by decide) ?_
  refine px_iload_n dX9_lesson_15 rfl rfl ?_
  refine px_iald dX9_lesson_16 (px_sh2 hw sh_37) (by decide) j1 hj1 hl1 ?_
  refine px_bipush dX9_lesson_17 bp_30 ?_
  refine px_icmp_lt (tgt := 24) dX9_lesson_19 (by decide) (fun h1 => ?_) (fun h1 => ?_)
  ·
    exact (k1 h1)
  ·
    exact px_forget (k2 h1) ⟨Or.inl rfl, Or.inl rfl, trivial⟩
theorem bX9_lesson_22 {E : px_E} {d : Nat} {w : pw_W} {Q : Option Value → pw_W → Prop} {t : ct_T} (hw : w.1 = cs t) (ht1 : is_Hamlet t.1) 
    (k1 : Q (some (.int (-1))) w) :
    px_W E mX9_lesson (d + 2) 0 0 22 [.null, .null] [] w Q := by
  refine px_iconst dX9_lesson_22 ic_m1 ?_
  exact px_ireturn dX9_lesson_23 rfl rfl k1
theorem bX9_lesson_24 {E : px_E} {d : Nat} {w : pw_W} {Q : Option Value → pw_W → Prop} {t : ct_T} (hw : w.1 = cs t) {x1 : Int32} (ht1 : is_Hamlet t.1) (j1 : Nat) (hj1 : x1 = nI j1) (hl1 : j1 < 6)
    (k1 : px_Call E (d + 1) 0 0 mX3_keepAct [.ref 38, .ref 35] (pw_sI w 37 j1 ((pw_I w 37 j1) + 1)) (fun v w' => px_W E mX9_lesson (d + 2) 0 0 48 [.ref 1, .int x1] (v.toList ++ []) w' Q)) :
    px_W E mX9_lesson (d + 2) 0 0 24 [.ref 1, .int x1] [] w Q := by
  refine px_aload_n dX9_lesson_24 rfl rfl ?_
  refine px_getR (v := 35) dX9_lesson_25 fr_9_40 rfl (px_sh1 hw sh_1) (px_rf hw rf_1_6) (by decide) ?_
  refine px_getR (v := 37) dX9_lesson_28 fr_9_117 rfl (px_sh1 hw sh_35) (px_rf hw rf_35_1) (by decide) ?_
  refine px_iload_n dX9_lesson_31 rfl rfl ?_
  refine px_dup2 dX9_lesson_32 rfl rfl ?_
  refine px_iald dX9_lesson_33 (px_sh2 hw sh_37) (by decide) j1 hj1 hl1 ?_
  refine px_iconst dX9_lesson_34 ic_1 ?_
  refine px_iadd dX9_lesson_35 ?_
  refine px_iast dX9_lesson_36 (px_sh2 hw sh_37) (by decide) j1 hj1 hl1 (by omega) ?_
  refine px_aload_n dX9_lesson_37 rfl rfl ?_
  refine px_getR (v := 38) dX9_lesson_38 fr_9_47 rfl (px_sh1 (hI hw) sh_1) (px_rf (hI hw) rf_1_7) (by decide) ?_
  refine px_aload_n dX9_lesson_41 rfl rfl ?_
  refine px_getR (v := 35) dX9_lesson_42 fr_9_40 rfl (px_sh1 (hI hw) sh_1) (px_rf (hI hw) rf_1_6) (by decide) ?_
  exact px_callV (As := [.ref 35]) (st := []) (rc := 0) (rs := 0) (mc := 0) (ms := 0) dX9_lesson_45 lk_9_181 (px_sh1 (hI hw) sh_38) rfl rfl (Nat.le_of_ble_eq_true rfl) k1
theorem bX9_lesson_48 {E : px_E} {d : Nat} {w : pw_W} {Q : Option Value → pw_W → Prop} {t : ct_T} (hw : w.1 = cs t) {x1 : Int32} (ht1 : is_Hamlet t.1) (j1 : Nat) (hj1 : x1 = nI j1) (hl1 : j1 < 6)
    (k1 : Q (some (.int (pw_I w 37 j1))) w) :
    px_W E mX9_lesson (d + 2) 0 0 48 [.ref 1, .int x1] [] w Q := by
  refine px_aload_n dX9_lesson_48 rfl rfl ?_
  refine px_getR (v := 35) dX9_lesson_49 fr_9_40 rfl (px_sh1 hw sh_1) (px_rf hw rf_1_6) (by decide) ?_
  refine px_getR (v := 37) dX9_lesson_52 fr_9_117 rfl (px_sh1 hw sh_35) (px_rf hw rf_35_1) (by decide) ?_
  refine px_iload_n dX9_lesson_55 rfl rfl ?_
  refine px_iald dX9_lesson_56 (px_sh2 hw sh_37) (by decide) j1 hj1 hl1 ?_
  exact px_ireturn dX9_lesson_57 rfl rfl k1
theorem dX9_forbid_0 : decode mX9_forbid.2.1 0 = .ok (.aload_n 0, 1) := by decide +kernel
theorem dX9_forbid_1 : decode mX9_forbid.2.1 1 = .ok (.iload_n 1, 1) := by decide +kernel
theorem dX9_forbid_2 : decode mX9_forbid.2.1 2 = .ok (.invokevirtual 130, 3) := by decide +kernel
theorem dX9_forbid_5 : decode mX9_forbid.2.1 5 = .ok (.ifCond .eq 14, 3) := by decide +kernel
theorem dX9_forbid_8 : decode mX9_forbid.2.1 8 = .ok (.aload_n 0, 1) := by decide +kernel
theorem dX9_forbid_9 : decode mX9_forbid.2.1 9 = .ok (.getfield 40, 3) := by decide +kernel
theorem dX9_forbid_12 : decode mX9_forbid.2.1 12 = .ok (.iload_n 1, 1) := by decide +kernel
theorem dX9_forbid_13 : decode mX9_forbid.2.1 13 = .ok (.invokevirtual 142, 3) := by decide +kernel
theorem dX9_forbid_16 : decode mX9_forbid.2.1 16 = .ok (.ifCond .eq 5, 3) := by decide +kernel
theorem dX9_forbid_19 : decode mX9_forbid.2.1 19 = .ok (.iconst (-1), 1) := by decide +kernel
theorem dX9_forbid_20 : decode mX9_forbid.2.1 20 = .ok (.ireturn, 1) := by decide +kernel
theorem dX9_forbid_21 : decode mX9_forbid.2.1 21 = .ok (.aload_n 0, 1) := by decide +kernel
theorem dX9_forbid_22 : decode mX9_forbid.2.1 22 = .ok (.iload_n 1, 1) := by decide +kernel
theorem dX9_forbid_23 : decode mX9_forbid.2.1 23 = .ok (.invokevirtual 184, 3) := by decide +kernel
theorem dX9_forbid_26 : decode mX9_forbid.2.1 26 = .ok (.ireturn, 1) := by decide +kernel
theorem bX9_forbid_0 {E : px_E} {d : Nat} {w : pw_W} {Q : Option Value → pw_W → Prop} {t : ct_T} (hw : w.1 = cs t) {x1 : Int32} (ht1 : is_Hamlet t.1) 
    (k1 : ¬ (pX9_isMeeting w t x1) → px_W E mX9_forbid (d + 2) 0 0 19 [.null, .null] [] w Q)
    (k2 : (pX9_isMeeting w t x1) → ¬ (pX8_isForbidden w 35 x1) → px_Call E (d + 1) 0 0 mX9_turnForbidden [.ref 1, .int x1] w (fun v w' => px_W E mX9_forbid (d + 2) 0 0 26 [.null, .null] (v.toList ++ []) w' Q))
    (k3 : (pX9_isMeeting w t x1) → (pX8_isForbidden w 35 x1) → px_W E mX9_forbid (d + 2) 0 0 19 [.null, .null] [] w Q) :
    px_W E mX9_forbid (d + 2) 0 0 0 [.ref 1, .int x1] [] w Q := by
  refine px_aload_n dX9_forbid_0 rfl rfl ?_
  refine px_iload_n dX9_forbid_1 rfl rfl ?_
  refine px_callV (As := [.int x1]) (st := []) (rc := 0) (rs := 0) (mc := 0) (ms := 0) dX9_forbid_2 lk_9_130 (px_sh1 hw sh_1) rfl rfl (Nat.le_of_ble_eq_true rfl) (sX9_isMeeting (w := w) hw ht1 ?_)
  show px_W E mX9_forbid (d + 2) 0 0 5 [.ref 1, .int x1] [.int (jb (pX9_isMeeting w t x1))] w Q
  refine px_jb_eq (tgt := 19) dX9_forbid_5 (by decide) (fun h1 => ?_) (fun h1 => ?_)
  ·
    exact px_forget (k1 h1) ⟨Or.inl rfl, Or.inl rfl, trivial⟩
  ·
    refine px_aload_n dX9_forbid_8 rfl rfl ?_
    refine px_getR (v := 35) dX9_forbid_9 fr_9_40 rfl (px_sh1 hw sh_1) (px_rf hw rf_1_6) (by decide) ?_
    refine px_iload_n dX9_forbid_12 rfl rfl ?_
    refine px_callV (As := [.int x1]) (st := []) (rc := 0) (rs := 0) (mc := 0) (ms := 0) dX9_forbid_13 lk_9_142 (px_sh1 hw sh_35) rfl rfl (Nat.le_of_ble_eq_true rfl) (sX8_isForbidden (w := w) hw (by simp [is_State, is_Hamlet, is_Formula]) ?_)
    show px_W E mX9_forbid (d + 2) 0 0 16 [.ref 1, .int x1] [.int (jb (pX8_isForbidden w 35 x1))] w Q
    refine px_jb_eq (tgt := 21) dX9_forbid_16 (by decide) (fun h2 => ?_) (fun h2 => ?_)
    ·
      refine px_aload_n dX9_forbid_21 rfl rfl ?_
      refine px_iload_n dX9_forbid_22 rfl rfl ?_
      refine px_forget (ls' := [.null, .null]) ?_ ⟨Or.inl rfl, Or.inl rfl, trivial⟩
      exact px_callV (As := [.int x1]) (st := []) (rc := 0) (rs := 0) (mc := 0) (ms := 0) dX9_forbid_23 lk_9_184 (px_sh1 hw sh_1) rfl rfl (Nat.le_of_ble_eq_true rfl) (k2 h1 h2)
    ·
      exact px_forget (k3 h1 h2) ⟨Or.inl rfl, Or.inl rfl, trivial⟩
theorem eX9_forbid {E : px_E} {d : Nat} {w : pw_W} {Q : Option Value → pw_W → Prop} {t : ct_T} (hw : w.1 = cs t) {x1 : Int32} (ht1 : is_Hamlet t.1) 
    (k1 : ¬ (pX9_isMeeting w t x1) → px_W E mX9_forbid (d + 2) 0 0 19 [.null, .null] [] w Q)
    (k2 : (pX9_isMeeting w t x1) → ¬ (pX8_isForbidden w 35 x1) → px_Call E (d + 1) 0 0 mX9_turnForbidden [.ref 1, .int x1] w (fun v w' => px_W E mX9_forbid (d + 2) 0 0 26 [.null, .null] (v.toList ++ []) w' Q))
    (k3 : (pX9_isMeeting w t x1) → (pX8_isForbidden w 35 x1) → px_W E mX9_forbid (d + 2) 0 0 19 [.null, .null] [] w Q) :
    px_Call E (d + 2) 0 0 mX9_forbid [.ref 1, .int x1] w Q :=
  px_enter (k := 0) (by decide) (Nat.le_of_ble_eq_true rfl) rfl (px_forget (bX9_forbid_0 hw ht1 k1 k2 k3) ⟨Or.inr rfl, Or.inr rfl, trivial⟩)
theorem bX9_forbid_19 {E : px_E} {d : Nat} {w : pw_W} {Q : Option Value → pw_W → Prop} {t : ct_T} (hw : w.1 = cs t) (ht1 : is_Hamlet t.1) 
    (k1 : Q (some (.int (-1))) w) :
    px_W E mX9_forbid (d + 2) 0 0 19 [.null, .null] [] w Q := by
  refine px_iconst dX9_forbid_19 ic_m1 ?_
  exact px_ireturn dX9_forbid_20 rfl rfl k1
theorem bX9_forbid_26 {E : px_E} {d : Nat} {w : pw_W} {Q : Option Value → pw_W → Prop} {t : ct_T} (hw : w.1 = cs t) {y0 : Int32} (ht1 : is_Hamlet t.1) 
    (k1 : Q (some (.int y0)) w) :
    px_W E mX9_forbid (d + 2) 0 0 26 [.null, .null] [.int y0] w Q := by
  exact px_ireturn dX9_forbid_26 rfl rfl k1
theorem dX9_allow_0 : decode mX9_allow.2.1 0 = .ok (.aload_n 0, 1) := by decide +kernel
theorem dX9_allow_1 : decode mX9_allow.2.1 1 = .ok (.iload_n 1, 1) := by decide +kernel
theorem dX9_allow_2 : decode mX9_allow.2.1 2 = .ok (.invokevirtual 130, 3) := by decide +kernel
theorem dX9_allow_5 : decode mX9_allow.2.1 5 = .ok (.ifCond .eq 14, 3) := by decide +kernel
theorem dX9_allow_8 : decode mX9_allow.2.1 8 = .ok (.aload_n 0, 1) := by decide +kernel
theorem dX9_allow_9 : decode mX9_allow.2.1 9 = .ok (.getfield 40, 3) := by decide +kernel
theorem dX9_allow_12 : decode mX9_allow.2.1 12 = .ok (.iload_n 1, 1) := by decide +kernel
theorem dX9_allow_13 : decode mX9_allow.2.1 13 = .ok (.invokevirtual 142, 3) := by decide +kernel
theorem dX9_allow_16 : decode mX9_allow.2.1 16 = .ok (.ifCond .ne 5, 3) := by decide +kernel
theorem dX9_allow_19 : decode mX9_allow.2.1 19 = .ok (.iconst (-1), 1) := by decide +kernel
theorem dX9_allow_20 : decode mX9_allow.2.1 20 = .ok (.ireturn, 1) := by decide +kernel
theorem dX9_allow_21 : decode mX9_allow.2.1 21 = .ok (.aload_n 0, 1) := by decide +kernel
theorem dX9_allow_22 : decode mX9_allow.2.1 22 = .ok (.iload_n 1, 1) := by decide +kernel
theorem dX9_allow_23 : decode mX9_allow.2.1 23 = .ok (.invokevirtual 184, 3) := by decide +kernel
theorem dX9_allow_26 : decode mX9_allow.2.1 26 = .ok (.ireturn, 1) := by decide +kernel
theorem bX9_allow_0 {E : px_E} {d : Nat} {w : pw_W} {Q : Option Value → pw_W → Prop} {t : ct_T} (hw : w.1 = cs t) {x1 : Int32} (ht1 : is_Hamlet t.1) 
    (k1 : ¬ (pX9_isMeeting w t x1) → px_W E mX9_allow (d + 2) 0 0 19 [.null, .null] [] w Q)
    (k2 : (pX9_isMeeting w t x1) → (pX8_isForbidden w 35 x1) → px_Call E (d + 1) 0 0 mX9_turnForbidden [.ref 1, .int x1] w (fun v w' => px_W E mX9_allow (d + 2) 0 0 26 [.null, .null] (v.toList ++ []) w' Q))
    (k3 : (pX9_isMeeting w t x1) → ¬ (pX8_isForbidden w 35 x1) → px_W E mX9_allow (d + 2) 0 0 19 [.null, .null] [] w Q) :
    px_W E mX9_allow (d + 2) 0 0 0 [.ref 1, .int x1] [] w Q := by
  refine px_aload_n dX9_allow_0 rfl rfl ?_
  refine px_iload_n dX9_allow_1 rfl rfl ?_
  refine px_callV (As := [.int x1]) (st := []) (rc := 0) (rs := 0) (mc := 0) (ms := 0) dX9_allow_2 lk_9_130 (px_sh1 hw sh_1) rfl rfl (Nat.le_of_ble_eq_true rfl) (sX9_isMeeting (w := w) hw ht1 ?_)
  show px_W E mX9_allow (d + 2) 0 0 5 [.ref 1, .int x1] [.int (jb (pX9_isMeeting w t x1))] w Q
  refine px_jb_eq (tgt := 19) dX9_allow_5 (by decide) (fun h1 => ?_) (fun h1 => ?_)
  ·
    exact px_forget (k1 h1) ⟨Or.inl rfl, Or.inl rfl, trivial⟩
  ·
    refine px_aload_n dX9_allow_8 rfl rfl ?_
    refine px_getR (v := 35) dX9_allow_9 fr_9_40 rfl (px_sh1 hw sh_1) (px_rf hw rf_1_6) (by decide) ?_
    refine px_iload_n dX9_allow_12 rfl rfl ?_
    refine px_callV (As := [.int x1]) (st := []) (rc := 0) (rs := 0) (mc := 0) (ms := 0) dX9_allow_13 lk_9_142 (px_sh1 hw sh_35) rfl rfl (Nat.le_of_ble_eq_true rfl) (sX8_isForbidden (w := w) hw (by simp [is_State, is_Hamlet, is_Formula]) ?_)
    show px_W E mX9_allow (d + 2) 0 0 16 [.ref 1, .int x1] [.int (jb (pX8_isForbidden w 35 x1))] w Q
    refine px_jb_ne (tgt := 21) dX9_allow_16 (by decide) (fun h2 => ?_) (fun h2 => ?_)
    ·
      refine px_aload_n dX9_allow_21 rfl rfl ?_
      refine px_iload_n dX9_allow_22 rfl rfl ?_
      refine px_forget (ls' := [.null, .null]) ?_ ⟨Or.inl rfl, Or.inl rfl, trivial⟩
      exact px_callV (As := [.int x1]) (st := []) (rc := 0) (rs := 0) (mc := 0) (ms := 0) dX9_allow_23 lk_9_184 (px_sh1 hw sh_1) rfl rfl (Nat.le_of_ble_eq_true rfl) (k2 h1 h2)
    ·
      exact px_forget (k3 h1 h2) ⟨Or.inl rfl, Or.inl rfl, trivial⟩
theorem eX9_allow {E : px_E} {d : Nat} {w : pw_W} {Q : Option Value → pw_W → Prop} {t : ct_T} (hw : w.1 = cs t) {x1 : Int32} (ht1 : is_Hamlet t.1) 
    (k1 : ¬ (pX9_isMeeting w t x1) → px_W E mX9_allow (d + 2) 0 0 19 [.null, .null] [] w Q)
    (k2 : (pX9_isMeeting w t x1) → (pX8_isForbidden w 35 x1) → px_Call E (d + 1) 0 0 mX9_turnForbidden [.ref 1, .int x1] w (fun v w' => px_W E mX9_allow (d + 2) 0 0 26 [.null, .null] (v.toList ++ []) w' Q))
    (k3 : (pX9_isMeeting w t x1) → ¬ (pX8_isForbidden w 35 x1) → px_W E mX9_allow (d + 2) 0 0 19 [.null, .null] [] w Q) :
    px_Call E (d + 2) 0 0 mX9_allow [.ref 1, .int x1] w Q :=
  px_enter (k := 0) (by decide) (Nat.le_of_ble_eq_true rfl) rfl (px_forget (bX9_allow_0 hw ht1 k1 k2 k3) ⟨Or.inr rfl, Or.inr rfl, trivial⟩)
theorem bX9_allow_19 {E : px_E} {d : Nat} {w : pw_W} {Q : Option Value → pw_W → Prop} {t : ct_T} (hw : w.1 = cs t) (ht1 : is_Hamlet t.1) 
    (k1 : Q (some (.int (-1))) w) :
    px_W E mX9_allow (d + 2) 0 0 19 [.null, .null] [] w Q := by
  refine px_iconst dX9_allow_19 ic_m1 ?_
  exact px_ireturn dX9_allow_20 rfl rfl k1
theorem bX9_allow_26 {E : px_E} {d : Nat} {w : pw_W} {Q : Option Value → pw_W → Prop} {t : ct_T} (hw : w.1 = cs t) {y0 : Int32} (ht1 : is_Hamlet t.1) 
    (k1 : Q (some (.int y0)) w) :
    px_W E mX9_allow (d + 2) 0 0 26 [.null, .null] [.int y0] w Q := by
  exact px_ireturn dX9_allow_26 rfl rfl k1
theorem dX9_call_0 : decode mX9_call.2.1 0 = .ok (.aload_n 0, 1) := by decide +kernel
theorem dX9_call_1 : decode mX9_call.2.1 1 = .ok (.iload_n 1, 1) := by decide +kernel
theorem dX9_call_2 : decode mX9_call.2.1 2 = .ok (.invokevirtual 145, 3) := by decide +kernel
theorem dX9_call_5 : decode mX9_call.2.1 5 = .ok (.ifCond .eq 23, 3) := by decide +kernel
theorem dX9_call_8 : decode mX9_call.2.1 8 = .ok (.aload_n 0, 1) := by decide +kernel
theorem dX9_call_9 : decode mX9_call.2.1 9 = .ok (.iload_n 2, 1) := by decide +kernel
theorem dX9_call_10 : decode mX9_call.2.1 10 = .ok (.invokevirtual 113, 3) := by decide +kernel
theorem dX9_call_13 : decode mX9_call.2.1 13 = .ok (.ifCond .eq 15, 3) := by decide +kernel
theorem dX9_call_16 : decode mX9_call.2.1 16 = .ok (.aload_n 0, 1) := by decide +kernel
theorem dX9_call_17 : decode mX9_call.2.1 17 = .ok (.getfield 40, 3) := by decide +kernel
theorem dX9_call_20 : decode mX9_call.2.1 20 = .ok (.getfield 123, 3) := by decide +kernel
theorem dX9_call_23 : decode mX9_call.2.1 23 = .ok (.iload_n 2, 1) := by decide +kernel
theorem dX9_call_24 : decode mX9_call.2.1 24 = .ok (.iaload, 1) := by decide +kernel
theorem dX9_call_25 : decode mX9_call.2.1 25 = .ok (.ifCond .ne 5, 3) := by decide +kernel
theorem dX9_call_28 : decode mX9_call.2.1 28 = .ok (.iconst (-1), 1) := by decide +kernel
theorem dX9_call_29 : decode mX9_call.2.1 29 = .ok (.ireturn, 1) := by decide +kernel
theorem dX9_call_30 : decode mX9_call.2.1 30 = .ok (.aload_n 0, 1) := by decide +kernel
theorem dX9_call_31 : decode mX9_call.2.1 31 = .ok (.getfield 20, 3) := by decide +kernel
theorem dX9_call_34 : decode mX9_call.2.1 34 = .ok (.aload_n 0, 1) := by decide +kernel
theorem dX9_call_35 : decode mX9_call.2.1 35 = .ok (.getfield 40, 3) := by decide +kernel
theorem dX9_call_38 : decode mX9_call.2.1 38 = .ok (.iload_n 1, 1) := by decide +kernel
theorem dX9_call_39 : decode mX9_call.2.1 39 = .ok (.iload_n 2, 1) := by decide +kernel
theorem dX9_call_40 : decode mX9_call.2.1 40 = .ok (.invokevirtual 188, 3) := by decide +kernel
theorem dX9_call_43 : decode mX9_call.2.1 43 = .ok (.aload_n 0, 1) := by decide +kernel
theorem dX9_call_44 : decode mX9_call.2.1 44 = .ok (.getfield 47, 3) := by decide +kernel
theorem dX9_call_47 : decode mX9_call.2.1 47 = .ok (.aload_n 0, 1) := by decide +kernel
theorem dX9_call_48 : decode mX9_call.2.1 48 = .ok (.getfield 40, 3) := by decide +kernel
theorem dX9_call_51 : decode mX9_call.2.1 51 = .ok (.invokevirtual 181, 3) := by decide +kernel
theorem dX9_call_54 : decode mX9_call.2.1 54 = .ok (.aload_n 0, 1) := by decide +kernel
theorem dX9_call_55 : decode mX9_call.2.1 55 = .ok (.getfield 40, 3) := by decide +kernel
theorem dX9_call_58 : decode mX9_call.2.1 58 = .ok (.getfield 123, 3) := by decide +kernel
theorem dX9_call_61 : decode mX9_call.2.1 61 = .ok (.iload_n 2, 1) := by decide +kernel
theorem dX9_call_62 : decode mX9_call.2.1 62 = .ok (.iaload, 1) := by decide +kernel
theorem dX9_call_63 : decode mX9_call.2.1 63 = .ok (.ireturn, 1) := by decide +kernel
theorem bX9_call_0 {E : px_E} {d : Nat} {w : pw_W} {Q : Option Value → pw_W → Prop} {t : ct_T} (hw : w.1 = cs t) {x1 x2 : Int32} (ht1 : is_Hamlet t.1) 
    (k1 : ¬ (pX9_isBrother w t x1) → px_W E mX9_call (d + 2) 0 0 28 [.null, .null, .null] [] w Q)
    (k2 : (pX9_isBrother w t x1) → ¬ (pX9_isPerson w t x2) → px_W E mX9_call (d + 2) 0 0 28 [.null, .null, .null] [] w Q)
    (k3 : (pX9_isBrother w t x1) → (pX9_isPerson w t x2) → px_W E mX9_call (d + 2) 0 0 16 [.ref 1, .int x1, .int x2] [] w Q) :
    px_W E mX9_call (d + 2) 0 0 0 [.ref 1, .int x1, .int x2] [] w Q := by
  refine px_aload_n dX9_call_0 rfl rfl ?_
  refine px_iload_n dX9_call_1 rfl rfl ?_
  refine px_callV (As := [.int x1]) (st := []) (rc := 0) (rs := 0) (mc := 0) (ms := 0) dX9_call_2 lk_9_145 (px_sh1 hw sh_1) rfl rfl (Nat.le_of_ble_eq_true rfl) (sX9_isBrother (w := w) hw ht1 ?_)
  show px_W E mX9_call (d + 2) 0 0 5 [.ref 1, .int x1, .int x2] [.int (jb (pX9_isBrother w t x1))] w Q
  refine px_jb_eq (tgt := 28) dX9_call_5 (by decide) (fun h1 => ?_) (fun h1 => ?_)
  ·
    exact px_forget (k1 h1) ⟨Or.inl rfl, Or.inl rfl, Or.inl rfl, trivial⟩
  ·
    refine px_aload_n dX9_call_8 rfl rfl ?_
    refine px_iload_n dX9_call_9 rfl rfl ?_
    refine px_callV (As := [.int x2]) (st := []) (rc := 0) (rs := 0) (mc := 0) (ms := 0) dX9_call_10 lk_9_113 (px_sh1 hw sh_1) rfl rfl (Nat.le_of_ble_eq_true rfl) (sX9_isPerson (w := w) hw ht1 ?_)
    show px_W E mX9_call (d + 2) 0 0 13 [.ref 1, .int x1, .int x2] [.int (jb (pX9_isPerson w t x2))] w Q
    refine px_jb_eq (tgt := 28) dX9_call_13 (by decide) (fun h2 => ?_) (fun h2 => ?_)
    ·
      exact px_forget (k2 h1 h2) ⟨Or.inl rfl, Or.inl rfl, Or.inl rfl, trivial⟩
    ·
      exact (k3 h1 h2)
theorem eX9_call {E : px_E} {d : Nat} {w : pw_W} {Q : Option Value → pw_W → Prop} {t : ct_T} (hw : w.1 = cs t) {x1 x2 : Int32} (ht1 : is_Hamlet t.1) 
    (k1 : ¬ (pX9_isBrother w t x1) → px_W E mX9_call (d + 2) 0 0 28 [.null, .null, .null] [] w Q)
    (k2 : (pX9_isBrother w t x1) → ¬ (pX9_isPerson w t x2) → px_W E mX9_call (d + 2) 0 0 28 [.null, .null, .null] [] w Q)
    (k3 : (pX9_isBrother w t x1) → (pX9_isPerson w t x2) → px_W E mX9_call (d + 2) 0 0 16 [.ref 1, .int x1, .int x2] [] w Q) :
    px_Call E (d + 2) 0 0 mX9_call [.ref 1, .int x1, .int x2] w Q :=
  px_enter (k := 0) (by decide) (Nat.le_of_ble_eq_true rfl) rfl (px_forget (bX9_call_0 hw ht1 k1 k2 k3) ⟨Or.inr rfl, Or.inr rfl, Or.inr rfl, trivial⟩)
theorem bX9_call_16 {E : px_E} {d : Nat} {w : pw_W} {Q : Option Value → pw_W → Prop} {t : ct_T} (hw : w.1 = cs t) {x1 x2 : Int32} (ht1 : is_Hamlet t.1) (j1 : Nat) (hj1 : x2 = nI j1) (hl1 : j1 < 6)
    (k1 : ¬ (pw_I w 36 j1) = 0 → px_Call E (d + 1) 0 0 mX2_coolOne [.ref t.1, .ref 35, .int x1, .int x2] w (fun v w' => px_W E mX9_call (d + 2) 0 0 43 [.ref 1, .null, .int x2] (v.toList ++ []) w' Q))
    (k2 : (pw_I w 36 j1) = 0 → px_W E mX9_call (d + 2) 0 0 28 [.null, .null, .null] [] w Q) :
    px_W E mX9_call (d + 2) 0 0 16 [.ref 1, .int x1, .int x2] [] w Q := by
  refine px_aload_n dX9_call_16 rfl rfl ?_
  refine px_getR (v := 35) dX9_call_17 fr_9_40 rfl (px_sh1 hw sh_1) (px_rf hw rf_1_6) (by decide) ?_
  refine px_getR (v := 36) dX9_call_20 fr_9_123 rfl (px_sh1 hw sh_35) (px_rf hw rf_35_0) (by decide) ?_
  refine px_iload_n dX9_call_23 rfl rfl ?_
  refine px_iald dX9_call_24 (px_sh2 hw sh_36) (by decide) j1 hj1 hl1 ?_
  refine px_if_ne (tgt := 30) dX9_call_25 (by decide) (fun h1 => ?_) (fun h1 => ?_)
  ·
    refine px_aload_n dX9_call_30 rfl rfl ?_
    refine px_getR (v := t.1) dX9_call_31 fr_9_20 rfl (px_sh1 hw sh_1) (px_rf hw rf_1_2) ht1.ne ?_
    refine px_aload_n dX9_call_34 rfl rfl ?_
    refine px_getR (v := 35) dX9_call_35 fr_9_40 rfl (px_sh1 hw sh_1) (px_rf hw rf_1_6) (by decide) ?_
    refine px_iload_n dX9_call_38 rfl rfl ?_
    refine px_iload_n dX9_call_39 rfl rfl ?_
    refine px_forget (ls' := [.ref 1, .null, .int x2]) ?_ ⟨Or.inr rfl, Or.inl rfl, Or.inr rfl, trivial⟩
    exact px_callV (As := [.ref 35, .int x1, .int x2]) (st := []) (rc := 0) (rs := 0) (mc := 0) (ms := 0) dX9_call_40 lk_9_188 (px_sh1 hw ht1.sh) rfl rfl (Nat.le_of_ble_eq_true rfl) (k1 h1)
  ·
    exact px_forget (k2 h1) ⟨Or.inl rfl, Or.inl rfl, Or.inl rfl, trivial⟩
theorem bX9_call_28 {E : px_E} {d : Nat} {w : pw_W} {Q : Option Value → pw_W → Prop} {t : ct_T} (hw : w.1 = cs t) (ht1 : is_Hamlet t.1) 
    (k1 : Q (some (.int (-1))) w) :
    px_W E mX9_call (d + 2) 0 0 28 [.null, .null, .null] [] w Q := by
  refine px_iconst dX9_call_28 ic_m1 ?_
  exact px_ireturn dX9_call_29 rfl rfl k1
theorem bX9_call_43 {E : px_E} {d : Nat} {w : pw_W} {Q : Option Value → pw_W → Prop} {t : ct_T} (hw : w.1 = cs t) {x2 : Int32} (ht1 : is_Hamlet t.1) 
    (k1 : px_Call E (d + 1) 0 0 mX3_keepAct [.ref 38, .ref 35] w (fun v w' => px_W E mX9_call (d + 2) 0 0 54 [.ref 1, .null, .int x2] (v.toList ++ []) w' Q)) :
    px_W E mX9_call (d + 2) 0 0 43 [.ref 1, .null, .int x2] [] w Q := by
  refine px_aload_n dX9_call_43 rfl rfl ?_
  refine px_getR (v := 38) dX9_call_44 fr_9_47 rfl (px_sh1 hw sh_1) (px_rf hw rf_1_7) (by decide) ?_
  refine px_aload_n dX9_call_47 rfl rfl ?_
  refine px_getR (v := 35) dX9_call_48 fr_9_40 rfl (px_sh1 hw sh_1) (px_rf hw rf_1_6) (by decide) ?_
  exact px_callV (As := [.ref 35]) (st := []) (rc := 0) (rs := 0) (mc := 0) (ms := 0) dX9_call_51 lk_9_181 (px_sh1 hw sh_38) rfl rfl (Nat.le_of_ble_eq_true rfl) k1
theorem bX9_call_54 {E : px_E} {d : Nat} {w : pw_W} {Q : Option Value → pw_W → Prop} {t : ct_T} (hw : w.1 = cs t) {x2 : Int32} (ht1 : is_Hamlet t.1) (j1 : Nat) (hj1 : x2 = nI j1) (hl1 : j1 < 6)
    (k1 : Q (some (.int (pw_I w 36 j1))) w) :
    px_W E mX9_call (d + 2) 0 0 54 [.ref 1, .null, .int x2] [] w Q := by
  refine px_aload_n dX9_call_54 rfl rfl ?_
  refine px_getR (v := 35) dX9_call_55 fr_9_40 rfl (px_sh1 hw sh_1) (px_rf hw rf_1_6) (by decide) ?_
  refine px_getR (v := 36) dX9_call_58 fr_9_123 rfl (px_sh1 hw sh_35) (px_rf hw rf_35_0) (by decide) ?_
  refine px_iload_n dX9_call_61 rfl rfl ?_
  refine px_iald dX9_call_62 (px_sh2 hw sh_36) (by decide) j1 hj1 hl1 ?_
  exact px_ireturn dX9_call_63 rfl rfl k1
theorem dX9_undo_0 : decode mX9_undo.2.1 0 = .ok (.aload_n 0, 1) := by decide +kernel
theorem dX9_undo_1 : decode mX9_undo.2.1 1 = .ok (.getfield 47, 3) := by decide +kernel
theorem dX9_undo_4 : decode mX9_undo.2.1 4 = .ok (.aload_n 0, 1) := by decide +kernel
theorem dX9_undo_5 : decode mX9_undo.2.1 5 = .ok (.getfield 40, 3) := by decide +kernel
theorem dX9_undo_8 : decode mX9_undo.2.1 8 = .ok (.invokevirtual 192, 3) := by decide +kernel
theorem dX9_undo_11 : decode mX9_undo.2.1 11 = .ok (.ireturn, 1) := by decide +kernel
theorem bX9_undo_0 {E : px_E} {d : Nat} {w : pw_W} {Q : Option Value → pw_W → Prop} {t : ct_T} (hw : w.1 = cs t)  
    (k1 : px_Call E d 0 0 mX3_stepBack [.ref 38, .ref 35] w (fun v w' => px_W E mX9_undo (d + 1) 0 0 11 [.null] (v.toList ++ []) w' Q)) :
    px_W E mX9_undo (d + 1) 0 0 0 [.ref 1] [] w Q := by
  refine px_aload_n dX9_undo_0 rfl rfl ?_
  refine px_getR (v := 38) dX9_undo_1 fr_9_47 rfl (px_sh1 hw sh_1) (px_rf hw rf_1_7) (by decide) ?_
  refine px_aload_n dX9_undo_4 rfl rfl ?_
  refine px_getR (v := 35) dX9_undo_5 fr_9_40 rfl (px_sh1 hw sh_1) (px_rf hw rf_1_6) (by decide) ?_
  refine px_forget (ls' := [.null]) ?_ ⟨Or.inl rfl, trivial⟩
  exact px_callV (As := [.ref 35]) (st := []) (rc := 0) (rs := 0) (mc := 0) (ms := 0) dX9_undo_8 lk_9_192 (px_sh1 hw sh_38) rfl rfl (Nat.le_of_ble_eq_true rfl) k1
theorem eX9_undo {E : px_E} {d : Nat} {w : pw_W} {Q : Option Value → pw_W → Prop} {t : ct_T} (hw : w.1 = cs t)  
    (k1 : px_Call E d 0 0 mX3_stepBack [.ref 38, .ref 35] w (fun v w' => px_W E mX9_undo (d + 1) 0 0 11 [.null] (v.toList ++ []) w' Q)) :
    px_Call E (d + 1) 0 0 mX9_undo [.ref 1] w Q :=
  px_enter (k := 0) (by decide) (Nat.le_of_ble_eq_true rfl) rfl (px_forget (bX9_undo_0 hw k1) ⟨Or.inr rfl, trivial⟩)
theorem bX9_undo_11 {E : px_E} {d : Nat} {w : pw_W} {Q : Option Value → pw_W → Prop} {t : ct_T} (hw : w.1 = cs t) {y0 : Int32}  (hb1 : y0 = 0 ∨ y0 = 1)
    (k1 : Q (some (.int y0)) w) :
    px_W E mX9_undo (d + 1) 0 0 11 [.null] [.int y0] w Q := by
  exact px_ireturn dX9_undo_11 rfl (px_nb (hb1)) k1
theorem dX9_redo_0 : decode mX9_redo.2.1 0 = .ok (.aload_n 0, 1) := by decide +kernel
theorem dX9_redo_1 : decode mX9_redo.2.1 1 = .ok (.getfield 47, 3) := by decide +kernel
theorem dX9_redo_4 : decode mX9_redo.2.1 4 = .ok (.aload_n 0, 1) := by decide +kernel
theorem dX9_redo_5 : decode mX9_redo.2.1 5 = .ok (.getfield 40, 3) := by decide +kernel
theorem dX9_redo_8 : decode mX9_redo.2.1 8 = .ok (.invokevirtual 196, 3) := by decide +kernel
theorem dX9_redo_11 : decode mX9_redo.2.1 11 = .ok (.ireturn, 1) := by decide +kernel
theorem bX9_redo_0 {E : px_E} {d : Nat} {w : pw_W} {Q : Option Value → pw_W → Prop} {t : ct_T} (hw : w.1 = cs t)  
    (k1 : px_Call E d 0 0 mX3_stepOn [.ref 38, .ref 35] w (fun v w' => px_W E mX9_redo (d + 1) 0 0 11 [.null] (v.toList ++ []) w' Q)) :
    px_W E mX9_redo (d + 1) 0 0 0 [.ref 1] [] w Q := by
  refine px_aload_n dX9_redo_0 rfl rfl ?_
  refine px_getR (v := 38) dX9_redo_1 fr_9_47 rfl (px_sh1 hw sh_1) (px_rf hw rf_1_7) (by decide) ?_
  refine px_aload_n dX9_redo_4 rfl rfl ?_
  refine px_getR (v := 35) dX9_redo_5 fr_9_40 rfl (px_sh1 hw sh_1) (px_rf hw rf_1_6) (by decide) ?_
  refine px_forget (ls' := [.null]) ?_ ⟨Or.inl rfl, trivial⟩
  exact px_callV (As := [.ref 35]) (st := []) (rc := 0) (rs := 0) (mc := 0) (ms := 0) dX9_redo_8 lk_9_196 (px_sh1 hw sh_38) rfl rfl (Nat.le_of_ble_eq_true rfl) k1
theorem eX9_redo {E : px_E} {d : Nat} {w : pw_W} {Q : Option Value → pw_W → Prop} {t : ct_T} (hw : w.1 = cs t)  
    (k1 : px_Call E d 0 0 mX3_stepOn [.ref 38, .ref 35] w (fun v w' => px_W E mX9_redo (d + 1) 0 0 11 [.null] (v.toList ++ []) w' Q)) :
    px_Call E (d + 1) 0 0 mX9_redo [.ref 1] w Q :=
  px_enter (k := 0) (by decide) (Nat.le_of_ble_eq_true rfl) rfl (px_forget (bX9_redo_0 hw k1) ⟨Or.inr rfl, trivial⟩)
theorem bX9_redo_11 {E : px_E} {d : Nat} {w : pw_W} {Q : Option Value → pw_W → Prop} {t : ct_T} (hw : w.1 = cs t) {y0 : Int32}  (hb1 : y0 = 0 ∨ y0 = 1)
    (k1 : Q (some (.int y0)) w) :
    px_W E mX9_redo (d + 1) 0 0 11 [.null] [.int y0] w Q := by
  exact px_ireturn dX9_redo_11 rfl (px_nb (hb1)) k1
theorem dX9_will_0 : decode mX9_will.2.1 0 = .ok (.aload_n 0, 1) := by decide +kernel
theorem dX9_will_1 : decode mX9_will.2.1 1 = .ok (.iload_n 1, 1) := by decide +kernel
theorem dX9_will_2 : decode mX9_will.2.1 2 = .ok (.invokevirtual 113, 3) := by decide +kernel
theorem dX9_will_5 : decode mX9_will.2.1 5 = .ok (.ifCond .eq 19, 3) := by decide +kernel
theorem dX9_will_8 : decode mX9_will.2.1 8 = .ok (.iload_n 2, 1) := by decide +kernel
theorem dX9_will_9 : decode mX9_will.2.1 9 = .ok (.bipush 60, 2) := by decide +kernel
theorem dX9_will_11 : decode mX9_will.2.1 11 = .ok (.invokestatic 199, 3) := by decide +kernel
theorem dX9_will_14 : decode mX9_will.2.1 14 = .ok (.ifCond .eq 10, 3) := by decide +kernel
theorem dX9_will_17 : decode mX9_will.2.1 17 = .ok (.iload_n 3, 1) := by decide +kernel
theorem dX9_will_18 : decode mX9_will.2.1 18 = .ok (.invokestatic 157, 3) := by decide +kernel
theorem dX9_will_21 : decode mX9_will.2.1 21 = .ok (.ifCond .ne 5, 3) := by decide +kernel
theorem dX9_will_24 : decode mX9_will.2.1 24 = .ok (.iconst (-1), 1) := by decide +kernel
theorem dX9_will_25 : decode mX9_will.2.1 25 = .ok (.ireturn, 1) := by decide +kernel
theorem dX9_will_26 : decode mX9_will.2.1 26 = .ok (.aload_n 0, 1) := by decide +kernel
theorem dX9_will_27 : decode mX9_will.2.1 27 = .ok (.getfield 61, 3) := by decide +kernel
theorem dX9_will_30 : decode mX9_will.2.1 30 = .ok (.aload_n 0, 1) := by decide +kernel
theorem dX9_will_31 : decode mX9_will.2.1 31 = .ok (.getfield 20, 3) := by decide +kernel
theorem dX9_will_34 : decode mX9_will.2.1 34 = .ok (.aload_n 0, 1) := by decide +kernel
theorem dX9_will_35 : decode mX9_will.2.1 35 = .ok (.getfield 40, 3) := by decide +kernel
theorem dX9_will_38 : decode mX9_will.2.1 38 = .ok (.iload_n 1, 1) := by decide +kernel
theorem dX9_will_39 : decode mX9_will.2.1 39 = .ok (.iload_n 2, 1) := by decide +kernel
theorem dX9_will_40 : decode mX9_will.2.1 40 = .ok (.iload_n 3, 1) := by decide +kernel
theorem dX9_will_41 : decode mX9_will.2.1 41 = .ok (.iconst 1, 1) := by decide +kernel
theorem dX9_will_42 : decode mX9_will.2.1 42 = .ok (.if_icmp .ne 7, 3) := by decide +kernel
theorem dX9_will_45 : decode mX9_will.2.1 45 = .ok (.iconst 1, 1) := by decide +kernel
theorem dX9_will_46 : decode mX9_will.2.1 46 = .ok (.goto 4, 3) := by decide +kernel
theorem dX9_will_49 : decode mX9_will.2.1 49 = .ok (.iconst 0, 1) := by decide +kernel
theorem dX9_will_50 : decode mX9_will.2.1 50 = .ok (.invokevirtual 203, 3) := by decide +kernel
theorem dX9_will_53 : decode mX9_will.2.1 53 = .ok (.ireturn, 1) := by decide +kernel
theorem bX9_will_0 {E : px_E} {d : Nat} {w : pw_W} {Q : Option Value → pw_W → Prop} {t : ct_T} (hw : w.1 = cs t) {x1 x2 x3 : Int32} (ht1 : is_Hamlet t.1) 
    (k1 : ¬ (pX9_isPerson w t x1) → px_W E mX9_will (d + 2) 0 0 24 [.null, .null, .null, .null] [] w Q)
    (k2 : (pX9_isPerson w t x1) → ¬ (pX9_isWithin x2 60) → px_W E mX9_will (d + 2) 0 0 24 [.null, .null, .null, .null] [] w Q)
    (k3 : (pX9_isPerson w t x1) → (pX9_isWithin x2 60) → (pX9_isZeroOrOne x3) → ¬ x3 = 1 → px_W E mX9_will (d + 2) 0 0 50 [.null, .null, .null, .null] [.int 0, .int x2, .int x1, .ref 35, .ref t.1, .ref 41] w Q)
    (k4 : (pX9_isPerson w t x1) → (pX9_isWithin x2 60) → (pX9_isZeroOrOne x3) → x3 = 1 → px_W E mX9_will (d + 2) 0 0 50 [.null, .null, .null, .null] [.int 1, .int x2, .int x1, .ref 35, .ref t.1, .ref 41] w Q)
    (k5 : (pX9_isPerson w t x1) → (pX9_isWithin x2 60) → ¬ (pX9_isZeroOrOne x3) → px_W E mX9_will (d + 2) 0 0 24 [.null, .null, .null, .null] [] w Q) :
    px_W E mX9_will (d + 2) 0 0 0 [.ref 1, .int x1, .int x2, .int x3] [] w Q := by
  refine px_aload_n dX9_will_0 rfl rfl ?_
  refine px_iload_n dX9_will_1 rfl rfl ?_
  refine px_callV (As := [.int x1]) (st := []) (rc := 0) (rs := 0) (mc := 0) (ms := 0) dX9_will_2 lk_9_113 (px_sh1 hw sh_1) rfl rfl (Nat.le_of_ble_eq_true rfl) (sX9_isPerson (w := w) hw ht1 ?_)
  show px_W E mX9_will (d + 2) 0 0 5 [.ref 1, .int x1, .int x2, .int x3] [.int (jb (pX9_isPerson w t x1))] w Q
  refine px_jb_eq (tgt := 24) dX9_will_5 (by decide) (fun h1 => ?_) (fun h1 => ?_)
  ·
    exact px_forget (k1 h1) ⟨Or.inl rfl, Or.inl rfl, Or.inl rfl, Or.inl rfl, trivial⟩
  ·
    refine px_iload_n dX9_will_8 rfl rfl ?_
    refine px_bipush dX9_will_9 bp_60 ?_
    refine px_callS (As := [.int x2, .int 60]) (st := []) (rc := 0) (rs := 0) (mc := 0) (ms := 0) dX9_will_11 lk_9_199 rfl rfl (Nat.le_of_ble_eq_true rfl) (sX9_isWithin ?_)
    show px_W E mX9_will (d + 2) 0 0 14 [.ref 1, .int x1, .int x2, .int x3] [.int (jb (pX9_isWithin x2 60))] w Q
    refine px_jb_eq (tgt := 24) dX9_will_14 (by decide) (fun h2 => ?_) (fun h2 => ?_)
    ·
      exact px_forget (k2 h1 h2) ⟨Or.inl rfl, Or.inl rfl, Or.inl rfl, Or.inl rfl, trivial⟩
    ·
      refine px_iload_n dX9_will_17 rfl rfl ?_
      refine px_callS (As := [.int x3]) (st := []) (rc := 0) (rs := 0) (mc := 0) (ms := 0) dX9_will_18 lk_9_157 rfl rfl (Nat.le_of_ble_eq_true rfl) (sX9_isZeroOrOne ?_)
      show px_W E mX9_will (d + 2) 0 0 21 [.ref 1, .int x1, .int x2, .int x3] [.int (jb (pX9_isZeroOrOne x3))] w Q
      refine px_jb_ne (tgt := 26) dX9_will_21 (by decide) (fun h3 => ?_) (fun h3 => ?_)
      ·
        refine px_aload_n dX9_will_26 rfl rfl ?_
        refine px_getR (v := 41) dX9_will_27 fr_9_61 rfl (px_sh1 hw sh_1) (px_rf hw rf_1_10) (by decide) ?_
        refine px_aload_n dX9_will_30 rfl rfl ?_
        refine px_getR (v := t.1) dX9_will_31 fr_9_20 rfl (px_sh1 hw sh_1) (px_rf hw rf_1_2) ht1.ne ?_
        refine px_aload_n dX9_will_34 rfl rfl ?_
        refine px_getR (v := 35) dX9_will_35 fr_9_40 rfl (px_sh1 hw sh_1) (px_rf hw rf_1_6) (by decide) ?_
        refine px_iload_n dX9_will_38 rfl rfl ?_
        refine px_iload_n dX9_will_39 rfl rfl ?_
        refine px_iload_n dX9_will_40 rfl rfl ?_
        refine px_iconst dX9_will_41 ic_1 ?_
        refine px_icmp_ne (tgt := 49) dX9_will_42 (by decide) (fun h4 => ?_) (fun h4 => ?_)
        ·
          refine px_iconst dX9_will_49 ic_0 ?_
          exact px_forget (k3 h1 h2 h3 h4) ⟨Or.inl rfl, Or.inl rfl, Or.inl rfl, Or.inl rfl, trivial⟩
        ·
          refine px_iconst dX9_will_45 ic_1 ?_
          refine px_goto (tgt := 50) dX9_will_46 (by decide) ?_
          exact px_forget (k4 h1 h2 h3 h4) ⟨Or.inl rfl, Or.inl rfl, Or.inl rfl, Or.inl rfl, trivial⟩
      ·
        exact px_forget (k5 h1 h2 h3) ⟨Or.inl rfl, Or.inl rfl, Or.inl rfl, Or.inl rfl, trivial⟩
theorem eX9_will {E : px_E} {d : Nat} {w : pw_W} {Q : Option Value → pw_W → Prop} {t : ct_T} (hw : w.1 = cs t) {x1 x2 x3 : Int32} (ht1 : is_Hamlet t.1) 
    (k1 : ¬ (pX9_isPerson w t x1) → px_W E mX9_will (d + 2) 0 0 24 [.null, .null, .null, .null] [] w Q)
    (k2 : (pX9_isPerson w t x1) → ¬ (pX9_isWithin x2 60) → px_W E mX9_will (d + 2) 0 0 24 [.null, .null, .null, .null] [] w Q)
    (k3 : (pX9_isPerson w t x1) → (pX9_isWithin x2 60) → (pX9_isZeroOrOne x3) → ¬ x3 = 1 → px_W E mX9_will (d + 2) 0 0 50 [.null, .null, .null, .null] [.int 0, .int x2, .int x1, .ref 35, .ref t.1, .ref 41] w Q)
    (k4 : (pX9_isPerson w t x1) → (pX9_isWithin x2 60) → (pX9_isZeroOrOne x3) → x3 = 1 → px_W E mX9_will (d + 2) 0 0 50 [.null, .null, .null, .null] [.int 1, .int x2, .int x1, .ref 35, .ref t.1, .ref 41] w Q)
    (k5 : (pX9_isPerson w t x1) → (pX9_isWithin x2 60) → ¬ (pX9_isZeroOrOne x3) → px_W E mX9_will (d + 2) 0 0 24 [.null, .null, .null, .null] [] w Q) :
    px_Call E (d + 2) 0 0 mX9_will [.ref 1, .int x1, .int x2, .int x3] w Q :=
  px_enter (k := 0) (by decide) (Nat.le_of_ble_eq_true rfl) rfl (px_forget (bX9_will_0 hw ht1 k1 k2 k3 k4 k5) ⟨Or.inr rfl, Or.inr rfl, Or.inr rfl, Or.inr rfl, trivial⟩)
theorem bX9_will_24 {E : px_E} {d : Nat} {w : pw_W} {Q : Option Value → pw_W → Prop} {t : ct_T} (hw : w.1 = cs t) (ht1 : is_Hamlet t.1) 
    (k1 : Q (some (.int (-1))) w) :
    px_W E mX9_will (d + 2) 0 0 24 [.null, .null, .null, .null] [] w Q := by
  refine px_iconst dX9_will_24 ic_m1 ?_
  exact px_ireturn dX9_will_25 rfl rfl k1
theorem bX9_will_50 {E : px_E} {d : Nat} {w : pw_W} {Q : Option Value → pw_W → Prop} {t : ct_T} (hw : w.1 = cs t) {y3 y4 y5 : Int32} (ht1 : is_Hamlet t.1) 
    (k1 : px_Call E (d + 1) 0 0 mX4_lumpsBehind [.ref 41, .ref t.1, .ref 35, .int y3, .int y4, .int y5] w (fun v w' => px_W E mX9_will (d + 2) 0 0 53 [.null, .null, .null, .null] (v.toList ++ []) w' Q)) :
    px_W E mX9_will (d + 2) 0 0 50 [.null, .null, .null, .null] [.int y5, .int y4, .int y3, .ref 35, .ref t.1, .ref 41] w Q := by
  exact px_callV (As := [.ref t.1, .ref 35, .int y3, .int y4, .int y5]) (st := []) (rc := 0) (rs := 0) (mc := 0) (ms := 0) dX9_will_50 lk_9_203 (px_sh1 hw sh_41) rfl rfl (Nat.le_of_ble_eq_true rfl) k1
theorem bX9_will_53 {E : px_E} {d : Nat} {w : pw_W} {Q : Option Value → pw_W → Prop} {t : ct_T} (hw : w.1 = cs t) {y0 : Int32} (ht1 : is_Hamlet t.1) 
    (k1 : Q (some (.int y0)) w) :
    px_W E mX9_will (d + 2) 0 0 53 [.null, .null, .null, .null] [.int y0] w Q := by
  exact px_ireturn dX9_will_53 rfl rfl k1
theorem dX9_firm_0 : decode mX9_firm.2.1 0 = .ok (.aload_n 0, 1) := by decide +kernel
theorem dX9_firm_1 : decode mX9_firm.2.1 1 = .ok (.iload_n 1, 1) := by decide +kernel
theorem dX9_firm_2 : decode mX9_firm.2.1 2 = .ok (.invokevirtual 113, 3) := by decide +kernel
theorem dX9_firm_5 : decode mX9_firm.2.1 5 = .ok (.ifCond .eq 12, 3) := by decide +kernel
theorem dX9_firm_8 : decode mX9_firm.2.1 8 = .ok (.iload_n 2, 1) := by decide +kernel
theorem dX9_firm_9 : decode mX9_firm.2.1 9 = .ok (.bipush 60, 2) := by decide +kernel
theorem dX9_firm_11 : decode mX9_firm.2.1 11 = .ok (.invokestatic 199, 3) := by decide +kernel
theorem dX9_firm_14 : decode mX9_firm.2.1 14 = .ok (.ifCond .ne 5, 3) := by decide +kernel
theorem dX9_firm_17 : decode mX9_firm.2.1 17 = .ok (.iconst (-1), 1) := by decide +kernel
theorem dX9_firm_18 : decode mX9_firm.2.1 18 = .ok (.ireturn, 1) := by decide +kernel
theorem dX9_firm_19 : decode mX9_firm.2.1 19 = .ok (.aload_n 0, 1) := by decide +kernel
theorem dX9_firm_20 : decode mX9_firm.2.1 20 = .ok (.getfield 61, 3) := by decide +kernel
theorem dX9_firm_23 : decode mX9_firm.2.1 23 = .ok (.aload_n 0, 1) := by decide +kernel
theorem dX9_firm_24 : decode mX9_firm.2.1 24 = .ok (.getfield 20, 3) := by decide +kernel
theorem dX9_firm_27 : decode mX9_firm.2.1 27 = .ok (.aload_n 0, 1) := by decide +kernel
theorem dX9_firm_28 : decode mX9_firm.2.1 28 = .ok (.getfield 40, 3) := by decide +kernel
theorem dX9_firm_31 : decode mX9_firm.2.1 31 = .ok (.iload_n 1, 1) := by decide +kernel
theorem dX9_firm_32 : decode mX9_firm.2.1 32 = .ok (.iload_n 2, 1) := by decide +kernel
theorem dX9_firm_33 : decode mX9_firm.2.1 33 = .ok (.invokevirtual 207, 3) := by decide +kernel
theorem dX9_firm_36 : decode mX9_firm.2.1 36 = .ok (.ireturn, 1) := by decide +kernel
theorem bX9_firm_0 {E : px_E} {d : Nat} {w : pw_W} {Q : Option Value → pw_W → Prop} {t : ct_T} (hw : w.1 = cs t) {x1 x2 : Int32} (ht1 : is_Hamlet t.1) 
    (k1 : ¬ (pX9_isPerson w t x1) → px_W E mX9_firm (d + 2) 0 0 17 [.null, .null, .null] [] w Q)
    (k2 : (pX9_isPerson w t x1) → (pX9_isWithin x2 60) → px_Call E (d + 1) 0 0 mX4_firmBehind [.ref 41, .ref t.1, .ref 35, .int x1, .int x2] w (fun v w' => px_W E mX9_firm (d + 2) 0 0 36 [.null, .null, .null] (v.toList ++ []) w' Q))
    (k3 : (pX9_isPerson w t x1) → ¬ (pX9_isWithin x2 60) → px_W E mX9_firm (d + 2) 0 0 17 [.null, .null, .null] [] w Q) :
    px_W E mX9_firm (d + 2) 0 0 0 [.ref 1, .int x1, .int x2] [] w Q := by
  refine px_aload_n dX9_firm_0 rfl rfl ?_
  refine px_iload_n dX9_firm_1 rfl rfl ?_
  refine px_callV (As := [.int x1]) (st := []) (rc := 0) (rs := 0) (mc := 0) (ms := 0) dX9_firm_2 lk_9_113 (px_sh1 hw sh_1) rfl rfl (Nat.le_of_ble_eq_true rfl) (sX9_isPerson (w := w) hw ht1 ?_)
  show px_W E mX9_firm (d + 2) 0 0 5 [.ref 1, .int x1, .int x2] [.int (jb (pX9_isPerson w t x1))] w Q
  refine px_jb_eq (tgt := 17) dX9_firm_5 (by decide) (fun h1 => ?_) (fun h1 => ?_)
  ·
    exact px_forget (k1 h1) ⟨Or.inl rfl, Or.inl rfl, Or.inl rfl, trivial⟩
  ·
    refine px_iload_n dX9_firm_8 rfl rfl ?_
    refine px_bipush dX9_firm_9 bp_60 ?_
    refine px_callS (As := [.int x2, .int 60]) (st := []) (rc := 0) (rs := 0) (mc := 0) (ms := 0) dX9_firm_11 lk_9_199 rfl rfl (Nat.le_of_ble_eq_true rfl) (sX9_isWithin ?_)
    show px_W E mX9_firm (d + 2) 0 0 14 [.ref 1, .int x1, .int x2] [.int (jb (pX9_isWithin x2 60))] w Q
    refine px_jb_ne (tgt := 19) dX9_firm_14 (by decide) (fun h2 => ?_) (fun h2 => ?_)
    ·
      refine px_aload_n dX9_firm_19 rfl rfl ?_
      refine px_getR (v := 41) dX9_firm_20 fr_9_61 rfl (px_sh1 hw sh_1) (px_rf hw rf_1_10) (by decide) ?_
      refine px_aload_n dX9_firm_23 rfl rfl ?_
      refine px_getR (v := t.1) dX9_firm_24 fr_9_20 rfl (px_sh1 hw sh_1) (px_rf hw rf_1_2) ht1.ne ?_
      refine px_aload_n dX9_firm_27 rfl rfl ?_
      refine px_getR (v := 35) dX9_firm_28 fr_9_40 rfl (px_sh1 hw sh_1) (px_rf hw rf_1_6) (by decide) ?_
      refine px_iload_n dX9_firm_31 rfl rfl ?_
      refine px_iload_n dX9_firm_32 rfl rfl ?_
      refine px_forget (ls' := [.null, .null, .null]) ?_ ⟨Or.inl rfl, Or.inl rfl, Or.inl rfl, trivial⟩
      exact px_callV (As := [.ref t.1, .ref 35, .int x1, .int x2]) (st := []) (rc := 0) (rs := 0) (mc := 0) (ms := 0) dX9_firm_33 lk_9_207 (px_sh1 hw sh_41) rfl rfl (Nat.le_of_ble_eq_true rfl) (k2 h1 h2)
    ·
      exact px_forget (k3 h1 h2) ⟨Or.inl rfl, Or.inl rfl, Or.inl rfl, trivial⟩
theorem eX9_firm {E : px_E} {d : Nat} {w : pw_W} {Q : Option Value → pw_W → Prop} {t : ct_T} (hw : w.1 = cs t) {x1 x2 : Int32} (ht1 : is_Hamlet t.1) 
    (k1 : ¬ (pX9_isPerson w t x1) → px_W E mX9_firm (d + 2) 0 0 17 [.null, .null, .null] [] w Q)
    (k2 : (pX9_isPerson w t x1) → (pX9_isWithin x2 60) → px_Call E (d + 1) 0 0 mX4_firmBehind [.ref 41, .ref t.1, .ref 35, .int x1, .int x2] w (fun v w' => px_W E mX9_firm (d + 2) 0 0 36 [.null, .null, .null] (v.toList ++ []) w' Q))
    (k3 : (pX9_isPerson w t x1) → ¬ (pX9_isWithin x2 60) → px_W E mX9_firm (d + 2) 0 0 17 [.null, .null, .null] [] w Q) :
    px_Call E (d + 2) 0 0 mX9_firm [.ref 1, .int x1, .int x2] w Q :=
  px_enter (k := 0) (by decide) (Nat.le_of_ble_eq_true rfl) rfl (px_forget (bX9_firm_0 hw ht1 k1 k2 k3) ⟨Or.inr rfl, Or.inr rfl, Or.inr rfl, trivial⟩)
theorem bX9_firm_17 {E : px_E} {d : Nat} {w : pw_W} {Q : Option Value → pw_W → Prop} {t : ct_T} (hw : w.1 = cs t) (ht1 : is_Hamlet t.1) 
    (k1 : Q (some (.int (-1))) w) :
    px_W E mX9_firm (d + 2) 0 0 17 [.null, .null, .null] [] w Q := by
  refine px_iconst dX9_firm_17 ic_m1 ?_
  exact px_ireturn dX9_firm_18 rfl rfl k1
theorem bX9_firm_36 {E : px_E} {d : Nat} {w : pw_W} {Q : Option Value → pw_W → Prop} {t : ct_T} (hw : w.1 = cs t) {y0 : Int32} (ht1 : is_Hamlet t.1) 
    (k1 : Q (some (.int y0)) w) :
    px_W E mX9_firm (d + 2) 0 0 36 [.null, .null, .null] [.int y0] w Q := by
  exact px_ireturn dX9_firm_36 rfl rfl k1
theorem dX9_hurt_0 : decode mX9_hurt.2.1 0 = .ok (.iload_n 1, 1) := by decide +kernel
theorem dX9_hurt_1 : decode mX9_hurt.2.1 1 = .ok (.bipush 60, 2) := by decide +kernel
theorem dX9_hurt_3 : decode mX9_hurt.2.1 3 = .ok (.invokestatic 199, 3) := by decide +kernel
theorem dX9_hurt_6 : decode mX9_hurt.2.1 6 = .ok (.ifCond .eq 22, 3) := by decide +kernel
theorem dX9_hurt_9 : decode mX9_hurt.2.1 9 = .ok (.aload_n 0, 1) := by decide +kernel
theorem dX9_hurt_10 : decode mX9_hurt.2.1 10 = .ok (.getfield 61, 3) := by decide +kernel
theorem dX9_hurt_13 : decode mX9_hurt.2.1 13 = .ok (.aload_n 0, 1) := by decide +kernel
theorem dX9_hurt_14 : decode mX9_hurt.2.1 14 = .ok (.getfield 20, 3) := by decide +kernel
theorem dX9_hurt_17 : decode mX9_hurt.2.1 17 = .ok (.aload_n 0, 1) := by decide +kernel
theorem dX9_hurt_18 : decode mX9_hurt.2.1 18 = .ok (.getfield 40, 3) := by decide +kernel
theorem dX9_hurt_21 : decode mX9_hurt.2.1 21 = .ok (.iload_n 1, 1) := by decide +kernel
theorem dX9_hurt_22 : decode mX9_hurt.2.1 22 = .ok (.invokevirtual 211, 3) := by decide +kernel
theorem dX9_hurt_25 : decode mX9_hurt.2.1 25 = .ok (.goto 4, 3) := by decide +kernel
theorem dX9_hurt_28 : decode mX9_hurt.2.1 28 = .ok (.iconst (-1), 1) := by decide +kernel
theorem dX9_hurt_29 : decode mX9_hurt.2.1 29 = .ok (.ireturn, 1) := by decide +kernel
theorem bX9_hurt_0 {E : px_E} {d : Nat} {w : pw_W} {Q : Option Value → pw_W → Prop} {t : ct_T} (hw : w.1 = cs t) {x1 : Int32} (ht1 : is_Hamlet t.1) 
    (k1 : ¬ (pX9_isWithin x1 60) → px_W E mX9_hurt (d + 2) 0 0 29 [.null, .null] [.int (-1)] w Q)
    (k2 : (pX9_isWithin x1 60) → px_Call E (d + 1) 0 0 mX4_hurtBehind [.ref 41, .ref t.1, .ref 35, .int x1] w (fun v w' => px_W E mX9_hurt (d + 2) 0 0 25 [.null, .null] (v.toList ++ []) w' Q)) :
    px_W E mX9_hurt (d + 2) 0 0 0 [.ref 1, .int x1] [] w Q := by
  refine px_iload_n dX9_hurt_0 rfl rfl ?_
  refine px_bipush dX9_hurt_1 bp_60 ?_
  refine px_callS (As := [.int x1, .int 60]) (st := []) (rc := 0) (rs := 0) (mc := 0) (ms := 0) dX9_hurt_3 lk_9_199 rfl rfl (Nat.le_of_ble_eq_true rfl) (sX9_isWithin ?_)
  show px_W E mX9_hurt (d + 2) 0 0 6 [.ref 1, .int x1] [.int (jb (pX9_isWithin x1 60))] w Q
  refine px_jb_eq (tgt := 28) dX9_hurt_6 (by decide) (fun h1 => ?_) (fun h1 => ?_)
  ·
    refine px_iconst dX9_hurt_28 ic_m1 ?_
    exact px_forget (k1 h1) ⟨Or.inl rfl, Or.inl rfl, trivial⟩
  ·
    refine px_aload_n dX9_hurt_9 rfl rfl ?_
    refine px_getR (v := 41) dX9_hurt_10 fr_9_61 rfl (px_sh1 hw sh_1) (px_rf hw rf_1_10) (by decide) ?_
    refine px_aload_n dX9_hurt_13 rfl rfl ?_
    refine px_getR (v := t.1) dX9_hurt_14 fr_9_20 rfl (px_sh1 hw sh_1) (px_rf hw rf_1_2) ht1.ne ?_
    refine px_aload_n dX9_hurt_17 rfl rfl ?_
    refine px_getR (v := 35) dX9_hurt_18 fr_9_40 rfl (px_sh1 hw sh_1) (px_rf hw rf_1_6) (by decide) ?_
    refine px_iload_n dX9_hurt_21 rfl rfl ?_
    refine px_forget (ls' := [.null, .null]) ?_ ⟨Or.inl rfl, Or.inl rfl, trivial⟩
    exact px_callV (As := [.ref t.1, .ref 35, .int x1]) (st := []) (rc := 0) (rs := 0) (mc := 0) (ms := 0) dX9_hurt_22 lk_9_211 (px_sh1 hw sh_41) rfl rfl (Nat.le_of_ble_eq_true rfl) (k2 h1)
theorem eX9_hurt {E : px_E} {d : Nat} {w : pw_W} {Q : Option Value → pw_W → Prop} {t : ct_T} (hw : w.1 = cs t) {x1 : Int32} (ht1 : is_Hamlet t.1) 
    (k1 : ¬ (pX9_isWithin x1 60) → px_W E mX9_hurt (d + 2) 0 0 29 [.null, .null] [.int (-1)] w Q)
    (k2 : (pX9_isWithin x1 60) → px_Call E (d + 1) 0 0 mX4_hurtBehind [.ref 41, .ref t.1, .ref 35, .int x1] w (fun v w' => px_W E mX9_hurt (d + 2) 0 0 25 [.null, .null] (v.toList ++ []) w' Q)) :
    px_Call E (d + 2) 0 0 mX9_hurt [.ref 1, .int x1] w Q :=
  px_enter (k := 0) (by decide) (Nat.le_of_ble_eq_true rfl) rfl (px_forget (bX9_hurt_0 hw ht1 k1 k2) ⟨Or.inr rfl, Or.inr rfl, trivial⟩)
theorem bX9_hurt_25 {E : px_E} {d : Nat} {w : pw_W} {Q : Option Value → pw_W → Prop} {t : ct_T} (hw : w.1 = cs t) {y0 : Int32} (ht1 : is_Hamlet t.1) 
    (k1 : px_W E mX9_hurt (d + 2) 0 0 29 [.null, .null] [.int y0] w Q) :
    px_W E mX9_hurt (d + 2) 0 0 25 [.null, .null] [.int y0] w Q := by
  refine px_goto (tgt := 29) dX9_hurt_25 (by decide) ?_
  exact k1
theorem bX9_hurt_29 {E : px_E} {d : Nat} {w : pw_W} {Q : Option Value → pw_W → Prop} {t : ct_T} (hw : w.1 = cs t) {y0 : Int32} (ht1 : is_Hamlet t.1) 
    (k1 : Q (some (.int y0)) w) :
    px_W E mX9_hurt (d + 2) 0 0 29 [.null, .null] [.int y0] w Q := by
  exact px_ireturn dX9_hurt_29 rfl rfl k1
theorem dX9_felled_0 : decode mX9_felled.2.1 0 = .ok (.aload_n 0, 1) := by decide +kernel
theorem dX9_felled_1 : decode mX9_felled.2.1 1 = .ok (.iload_n 1, 1) := by decide +kernel
theorem dX9_felled_2 : decode mX9_felled.2.1 2 = .ok (.invokevirtual 113, 3) := by decide +kernel
theorem dX9_felled_5 : decode mX9_felled.2.1 5 = .ok (.ifCond .eq 24, 3) := by decide +kernel
theorem dX9_felled_8 : decode mX9_felled.2.1 8 = .ok (.aload_n 0, 1) := by decide +kernel
theorem dX9_felled_9 : decode mX9_felled.2.1 9 = .ok (.getfield 61, 3) := by decide +kernel
theorem dX9_felled_12 : decode mX9_felled.2.1 12 = .ok (.aload_n 0, 1) := by decide +kernel
theorem dX9_felled_13 : decode mX9_felled.2.1 13 = .ok (.getfield 20, 3) := by decide +kernel
theorem dX9_felled_16 : decode mX9_felled.2.1 16 = .ok (.aload_n 0, 1) := by decide +kernel
theorem dX9_felled_17 : decode mX9_felled.2.1 17 = .ok (.getfield 40, 3) := by decide +kernel
theorem dX9_felled_20 : decode mX9_felled.2.1 20 = .ok (.iload_n 1, 1) := by decide +kernel
theorem dX9_felled_21 : decode mX9_felled.2.1 21 = .ok (.bipush 60, 2) := by decide +kernel
theorem dX9_felled_23 : decode mX9_felled.2.1 23 = .ok (.invokevirtual 215, 3) := by decide +kernel
theorem dX9_felled_26 : decode mX9_felled.2.1 26 = .ok (.goto 4, 3) := by decide +kernel
theorem dX9_felled_29 : decode mX9_felled.2.1 29 = .ok (.iconst (-1), 1) := by decide +kernel
theorem dX9_felled_30 : decode mX9_felled.2.1 30 = .ok (.ireturn, 1) := by decide +kernel
theorem bX9_felled_0 {E : px_E} {d : Nat} {w : pw_W} {Q : Option Value → pw_W → Prop} {t : ct_T} (hw : w.1 = cs t) {x1 : Int32} (ht1 : is_Hamlet t.1) 
    (k1 : ¬ (pX9_isPerson w t x1) → px_W E mX9_felled (d + 2) 0 0 30 [.null, .null] [.int (-1)] w Q)
    (k2 : (pX9_isPerson w t x1) → px_Call E (d + 1) 0 0 mX4_daysTillAbed [.ref 41, .ref t.1, .ref 35, .int x1, .int 60] w (fun v w' => px_W E mX9_felled (d + 2) 0 0 26 [.null, .null] (v.toList ++ []) w' Q)) :
    px_W E mX9_felled (d + 2) 0 0 0 [.ref 1, .int x1] [] w Q := by
  refine px_aload_n dX9_felled_0 rfl rfl ?_
  refine px_iload_n dX9_felled_1 rfl rfl ?_
  refine px_callV (As := [.int x1]) (st := []) (rc := 0) (rs := 0) (mc := 0) (ms := 0) dX9_felled_2 lk_9_113 (px_sh1 hw sh_1) rfl rfl (Nat.le_of_ble_eq_true rfl) (sX9_isPerson (w := w) hw ht1 ?_)
  show px_W E mX9_felled (d + 2) 0 0 5 [.ref 1, .int x1] [.int (jb (pX9_isPerson w t x1))] w Q
  refine px_jb_eq (tgt := 29) dX9_felled_5 (by decide) (fun h1 => ?_) (fun h1 => ?_)
  ·
    refine px_iconst dX9_felled_29 ic_m1 ?_
    exact px_forget (k1 h1) ⟨Or.inl rfl, Or.inl rfl, trivial⟩
  ·
    refine px_aload_n dX9_felled_8 rfl rfl ?_
    refine px_getR (v := 41) dX9_felled_9 fr_9_61 rfl (px_sh1 hw sh_1) (px_rf hw rf_1_10) (by decide) ?_
    refine px_aload_n dX9_felled_12 rfl rfl ?_
    refine px_getR (v := t.1) dX9_felled_13 fr_9_20 rfl (px_sh1 hw sh_1) (px_rf hw rf_1_2) ht1.ne ?_
    refine px_aload_n dX9_felled_16 rfl rfl ?_
    refine px_getR (v := 35) dX9_felled_17 fr_9_40 rfl (px_sh1 hw sh_1) (px_rf hw rf_1_6) (by decide) ?_
    refine px_iload_n dX9_felled_20 rfl rfl ?_
    refine px_bipush dX9_felled_21 bp_60 ?_
    refine px_forget (ls' := [.null, .null]) ?_ ⟨Or.inl rfl, Or.inl rfl, trivial⟩
    exact px_callV (As := [.ref t.1, .ref 35, .int x1, .int 60]) (st := []) (rc := 0) (rs := 0) (mc := 0) (ms := 0) dX9_felled_23 lk_9_215 (px_sh1 hw sh_41) rfl rfl (Nat.le_of_ble_eq_true rfl) (k2 h1)
theorem eX9_felled {E : px_E} {d : Nat} {w : pw_W} {Q : Option Value → pw_W → Prop} {t : ct_T} (hw : w.1 = cs t) {x1 : Int32} (ht1 : is_Hamlet t.1) 
    (k1 : ¬ (pX9_isPerson w t x1) → px_W E mX9_felled (d + 2) 0 0 30 [.null, .null] [.int (-1)] w Q)
    (k2 : (pX9_isPerson w t x1) → px_Call E (d + 1) 0 0 mX4_daysTillAbed [.ref 41, .ref t.1, .ref 35, .int x1, .int 60] w (fun v w' => px_W E mX9_felled (d + 2) 0 0 26 [.null, .null] (v.toList ++ []) w' Q)) :
    px_Call E (d + 2) 0 0 mX9_felled [.ref 1, .int x1] w Q :=
  px_enter (k := 0) (by decide) (Nat.le_of_ble_eq_true rfl) rfl (px_forget (bX9_felled_0 hw ht1 k1 k2) ⟨Or.inr rfl, Or.inr rfl, trivial⟩)
theorem bX9_felled_26 {E : px_E} {d : Nat} {w : pw_W} {Q : Option Value → pw_W → Prop} {t : ct_T} (hw : w.1 = cs t) {y0 : Int32} (ht1 : is_Hamlet t.1) 
    (k1 : px_W E mX9_felled (d + 2) 0 0 30 [.null, .null] [.int y0] w Q) :
    px_W E mX9_felled (d + 2) 0 0 26 [.null, .null] [.int y0] w Q := by
  refine px_goto (tgt := 30) dX9_felled_26 (by decide) ?_
  exact k1
theorem bX9_felled_30 {E : px_E} {d : Nat} {w : pw_W} {Q : Option Value → pw_W → Prop} {t : ct_T} (hw : w.1 = cs t) {y0 : Int32} (ht1 : is_Hamlet t.1) 
    (k1 : Q (some (.int y0)) w) :
    px_W E mX9_felled (d + 2) 0 0 30 [.null, .null] [.int y0] w Q := by
  exact px_ireturn dX9_felled_30 rfl rfl k1
theorem dX9_peace_0 : decode mX9_peace.2.1 0 = .ok (.iload_n 1, 1) := by decide +kernel
theorem dX9_peace_1 : decode mX9_peace.2.1 1 = .ok (.bipush 14, 2) := by decide +kernel
theorem dX9_peace_3 : decode mX9_peace.2.1 3 = .ok (.invokestatic 199, 3) := by decide +kernel
theorem dX9_peace_6 : decode mX9_peace.2.1 6 = .ok (.ifCond .eq 10, 3) := by decide +kernel
theorem dX9_peace_9 : decode mX9_peace.2.1 9 = .ok (.iload_n 2, 1) := by decide +kernel
theorem dX9_peace_10 : decode mX9_peace.2.1 10 = .ok (.invokestatic 157, 3) := by decide +kernel
theorem dX9_peace_13 : decode mX9_peace.2.1 13 = .ok (.ifCond .ne 5, 3) := by decide +kernel
theorem dX9_peace_16 : decode mX9_peace.2.1 16 = .ok (.iconst (-1), 1) := by decide +kernel
theorem dX9_peace_17 : decode mX9_peace.2.1 17 = .ok (.ireturn, 1) := by decide +kernel
theorem dX9_peace_18 : decode mX9_peace.2.1 18 = .ok (.aload_n 0, 1) := by decide +kernel
theorem dX9_peace_19 : decode mX9_peace.2.1 19 = .ok (.getfield 61, 3) := by decide +kernel
theorem dX9_peace_22 : decode mX9_peace.2.1 22 = .ok (.aload_n 0, 1) := by decide +kernel
theorem dX9_peace_23 : decode mX9_peace.2.1 23 = .ok (.getfield 20, 3) := by decide +kernel
theorem dX9_peace_26 : decode mX9_peace.2.1 26 = .ok (.aload_n 0, 1) := by decide +kernel
theorem dX9_peace_27 : decode mX9_peace.2.1 27 = .ok (.getfield 40, 3) := by decide +kernel
theorem dX9_peace_30 : decode mX9_peace.2.1 30 = .ok (.iload_n 1, 1) := by decide +kernel
theorem dX9_peace_31 : decode mX9_peace.2.1 31 = .ok (.invokevirtual 218, 3) := by decide +kernel
theorem dX9_peace_34 : decode mX9_peace.2.1 34 = .ok (.istore_n 3, 1) := by decide +kernel
theorem dX9_peace_35 : decode mX9_peace.2.1 35 = .ok (.iload_n 3, 1) := by decide +kernel
theorem dX9_peace_36 : decode mX9_peace.2.1 36 = .ok (.iconst (-1), 1) := by decide +kernel
theorem dX9_peace_37 : decode mX9_peace.2.1 37 = .ok (.if_icmp .ne 5, 3) := by decide +kernel
theorem dX9_peace_40 : decode mX9_peace.2.1 40 = .ok (.iconst (-1), 1) := by decide +kernel
theorem dX9_peace_41 : decode mX9_peace.2.1 41 = .ok (.ireturn, 1) := by decide +kernel
theorem dX9_peace_42 : decode mX9_peace.2.1 42 = .ok (.iload_n 2, 1) := by decide +kernel
theorem dX9_peace_43 : decode mX9_peace.2.1 43 = .ok (.ifCond .ne 10, 3) := by decide +kernel
theorem dX9_peace_46 : decode mX9_peace.2.1 46 = .ok (.iload_n 3, 1) := by decide +kernel
theorem dX9_peace_47 : decode mX9_peace.2.1 47 = .ok (.invokestatic 221, 3) := by decide +kernel
theorem dX9_peace_50 : decode mX9_peace.2.1 50 = .ok (.goto 4, 3) := by decide +kernel
theorem dX9_peace_53 : decode mX9_peace.2.1 53 = .ok (.iload_n 3, 1) := by decide +kernel
theorem dX9_peace_54 : decode mX9_peace.2.1 54 = .ok (.ireturn, 1) := by decide +kernel
theorem bX9_peace_0 {E : px_E} {d : Nat} {w : pw_W} {Q : Option Value → pw_W → Prop} {t : ct_T} (hw : w.1 = cs t) {x1 x2 : Int32} (ht1 : is_Hamlet t.1) 
    (k1 : ¬ (pX9_isWithin x1 14) → px_W E mX9_peace (d + 2) 0 0 16 [.null, .null, .null, .null] [] w Q)
    (k2 : (pX9_isWithin x1 14) → (pX9_isZeroOrOne x2) → px_Call E (d + 1) 0 0 mX4_leastToForbid [.ref 41, .ref t.1, .ref 35, .int x1] w (fun v w' => px_W E mX9_peace (d + 2) 0 0 34 [.null, .null, .int x2, .null] (v.toList ++ []) w' Q))
    (k3 : (pX9_isWithin x1 14) → ¬ (pX9_isZeroOrOne x2) → px_W E mX9_peace (d + 2) 0 0 16 [.null, .null, .null, .null] [] w Q) :
    px_W E mX9_peace (d + 2) 0 0 0 [.ref 1, .int x1, .int x2, .null] [] w Q := by
  refine px_iload_n dX9_peace_0 rfl rfl ?_
  refine px_bipush dX9_peace_1 bp_14 ?_
  refine px_callS (As := [.int x1, .int 14]) (st := []) (rc := 0) (rs := 0) (mc := 0) (ms := 0) dX9_peace_3 lk_9_199 rfl rfl (Nat.le_of_ble_eq_true rfl) (sX9_isWithin ?_)
  show px_W E mX9_peace (d + 2) 0 0 6 [.ref 1, .int x1, .int x2, .null] [.int (jb (pX9_isWithin x1 14))] w Q
  refine px_jb_eq (tgt := 16) dX9_peace_6 (by decide) (fun h1 => ?_) (fun h1 => ?_)
  ·
    exact px_forget (k1 h1) ⟨Or.inl rfl, Or.inl rfl, Or.inl rfl, Or.inl rfl, trivial⟩
  ·
    refine px_iload_n dX9_peace_9 rfl rfl ?_
    refine px_callS (As := [.int x2]) (st := []) (rc := 0) (rs := 0) (mc := 0) (ms := 0) dX9_peace_10 lk_9_157 rfl rfl (Nat.le_of_ble_eq_true rfl) (sX9_isZeroOrOne ?_)
    show px_W E mX9_peace (d + 2) 0 0 13 [.ref 1, .int x1, .int x2, .null] [.int (jb (pX9_isZeroOrOne x2))] w Q
    refine px_jb_ne (tgt := 18) dX9_peace_13 (by decide) (fun h2 => ?_) (fun h2 => ?_)
    ·
      refine px_aload_n dX9_peace_18 rfl rfl ?_
      refine px_getR (v := 41) dX9_peace_19 fr_9_61 rfl (px_sh1 hw sh_1) (px_rf hw rf_1_10) (by decide) ?_
      refine px_aload_n dX9_peace_22 rfl rfl ?_
      refine px_getR (v := t.1) dX9_peace_23 fr_9_20 rfl (px_sh1 hw sh_1) (px_rf hw rf_1_2) ht1.ne ?_
      refine px_aload_n dX9_peace_26 rfl rfl ?_
      refine px_getR (v := 35) dX9_peace_27 fr_9_40 rfl (px_sh1 hw sh_1) (px_rf hw rf_1_6) (by decide) ?_
      refine px_iload_n dX9_peace_30 rfl rfl ?_
      refine px_forget (ls' := [.null, .null, .int x2, .null]) ?_ ⟨Or.inl rfl, Or.inl rfl, Or.inr rfl, Or.inl rfl, trivial⟩
      exact px_callV (As := [.ref t.1, .ref 35, .int x1]) (st := []) (rc := 0) (rs := 0) (mc := 0) (ms := 0) dX9_peace_31 lk_9_218 (px_sh1 hw sh_41) rfl rfl (Nat.le_of_ble_eq_true rfl) (k2 h1 h2)
    ·
      exact px_forget (k3 h1 h2) ⟨Or.inl rfl, Or.inl rfl, Or.inl rfl, Or.inl rfl, trivial⟩
theorem eX9_peace {E : px_E} {d : Nat} {w : pw_W} {Q : Option Value → pw_W → Prop} {t : ct_T} (hw : w.1 = cs t) {x1 x2 : Int32} (ht1 : is_Hamlet t.1) 
    (k1 : ¬ (pX9_isWithin x1 14) → px_W E mX9_peace (d + 2) 0 0 16 [.null, .null, .null, .null] [] w Q)
    (k2 : (pX9_isWithin x1 14) → (pX9_isZeroOrOne x2) → px_Call E (d + 1) 0 0 mX4_leastToForbid [.ref 41, .ref t.1, .ref 35, .int x1] w (fun v w' => px_W E mX9_peace (d + 2) 0 0 34 [.null, .null, .int x2, .null] (v.toList ++ []) w' Q))
    (k3 : (pX9_isWithin x1 14) → ¬ (pX9_isZeroOrOne x2) → px_W E mX9_peace (d + 2) 0 0 16 [.null, .null, .null, .null] [] w Q) :
    px_Call E (d + 2) 0 0 mX9_peace [.ref 1, .int x1, .int x2] w Q :=
  px_enter (k := 1) (by decide) (Nat.le_of_ble_eq_true rfl) rfl (px_forget (bX9_peace_0 hw ht1 k1 k2 k3) ⟨Or.inr rfl, Or.inr rfl, Or.inr rfl, Or.inl rfl, trivial⟩)
theorem bX9_peace_16 {E : px_E} {d : Nat} {w : pw_W} {Q : Option Value → pw_W → Prop} {t : ct_T} (hw : w.1 = cs t) (ht1 : is_Hamlet t.1) 
    (k1 : Q (some (.int (-1))) w) :
    px_W E mX9_peace (d + 2) 0 0 16 [.null, .null, .null, .null] [] w Q := by
  refine px_iconst dX9_peace_16 ic_m1 ?_
  exact px_ireturn dX9_peace_17 rfl rfl k1
theorem bX9_peace_34 {E : px_E} {d : Nat} {w : pw_W} {Q : Option Value → pw_W → Prop} {t : ct_T} (hw : w.1 = cs t) {x2 y0 : Int32} (ht1 : is_Hamlet t.1) 
    (k1 : ¬ y0 = (-1) → ¬ x2 = 0 → px_W E mX9_peace (d + 2) 0 0 54 [.null, .null, .null, .null] [.int y0] w Q)
    (k2 : ¬ y0 = (-1) → x2 = 0 → px_W E mX9_peace (d + 2) 0 0 54 [.null, .null, .null, .null] [.int (hJ6_bitCount_0f7a4 y0)] w Q)
    (k3 : y0 = (-1) → Q (some (.int (-1))) w) :
    px_W E mX9_peace (d + 2) 0 0 34 [.null, .null, .int x2, .null] [.int y0] w Q := by
  refine px_istore_n (ls' := [.null, .null, .int x2, .int y0]) dX9_peace_34 rfl ⟨by decide, rfl⟩ rfl ?_
  refine px_iload_n dX9_peace_35 rfl rfl ?_
  refine px_iconst dX9_peace_36 ic_m1 ?_
  refine px_icmp_ne (tgt := 42) dX9_peace_37 (by decide) (fun h1 => ?_) (fun h1 => ?_)
  ·
    refine px_iload_n dX9_peace_42 rfl rfl ?_
    refine px_if_ne (tgt := 53) dX9_peace_43 (by decide) (fun h2 => ?_) (fun h2 => ?_)
    ·
      refine px_iload_n dX9_peace_53 rfl rfl ?_
      exact px_forget (k1 h1 h2) ⟨Or.inl rfl, Or.inl rfl, Or.inl rfl, Or.inl rfl, trivial⟩
    ·
      refine px_iload_n dX9_peace_46 rfl rfl ?_
      refine px_forget (ls' := [.null, .null, .null, .null]) ?_ ⟨Or.inl rfl, Or.inl rfl, Or.inl rfl, Or.inl rfl, trivial⟩
      refine px_callS (As := [.int y0]) (st := []) (rc := 0) (rs := 0) (mc := 0) (ms := 0) dX9_peace_47 lk_9_221 rfl rfl (Nat.le_of_ble_eq_true rfl) (sJ6_bitCount_0f7a4 ?_)
      show px_W E mX9_peace (d + 2) 0 0 50 [.null, .null, .null, .null] [.int (hJ6_bitCount_0f7a4 y0)] w Q
      refine px_goto (tgt := 54) dX9_peace_50 (by decide) ?_
      exact (k2 h1 h2)
  ·
    refine px_iconst dX9_peace_40 ic_m1 ?_
    exact px_ireturn dX9_peace_41 rfl rfl (k3 h1)
theorem bX9_peace_54 {E : px_E} {d : Nat} {w : pw_W} {Q : Option Value → pw_W → Prop} {t : ct_T} (hw : w.1 = cs t) {y0 : Int32} (ht1 : is_Hamlet t.1) 
    (k1 : Q (some (.int y0)) w) :
    px_W E mX9_peace (d + 2) 0 0 54 [.null, .null, .null, .null] [.int y0] w Q := by
  exact px_ireturn dX9_peace_54 rfl rfl k1
theorem dX9_rounds_0 : decode mX9_rounds.2.1 0 = .ok (.aload_n 0, 1) := by decide +kernel
theorem dX9_rounds_1 : decode mX9_rounds.2.1 1 = .ok (.iconst 0, 1) := by decide +kernel
theorem dX9_rounds_2 : decode mX9_rounds.2.1 2 = .ok (.putfield 82, 3) := by decide +kernel
theorem dX9_rounds_5 : decode mX9_rounds.2.1 5 = .ok (.aload_n 0, 1) := by decide +kernel
theorem dX9_rounds_6 : decode mX9_rounds.2.1 6 = .ok (.iload_n 1, 1) := by decide +kernel
theorem dX9_rounds_7 : decode mX9_rounds.2.1 7 = .ok (.invokevirtual 145, 3) := by decide +kernel
theorem dX9_rounds_10 : decode mX9_rounds.2.1 10 = .ok (.ifCond .eq 12, 3) := by decide +kernel
theorem dX9_rounds_13 : decode mX9_rounds.2.1 13 = .ok (.iload_n 2, 1) := by decide +kernel
theorem dX9_rounds_14 : decode mX9_rounds.2.1 14 = .ok (.bipush 14, 2) := by decide +kernel
theorem dX9_rounds_16 : decode mX9_rounds.2.1 16 = .ok (.invokestatic 199, 3) := by decide +kernel
theorem dX9_rounds_19 : decode mX9_rounds.2.1 19 = .ok (.ifCond .ne 5, 3) := by decide +kernel
theorem dX9_rounds_22 : decode mX9_rounds.2.1 22 = .ok (.iconst (-1), 1) := by decide +kernel
theorem dX9_rounds_23 : decode mX9_rounds.2.1 23 = .ok (.ireturn, 1) := by decide +kernel
theorem dX9_rounds_24 : decode mX9_rounds.2.1 24 = .ok (.aload_n 0, 1) := by decide +kernel
theorem dX9_rounds_25 : decode mX9_rounds.2.1 25 = .ok (.getfield 61, 3) := by decide +kernel
theorem dX9_rounds_28 : decode mX9_rounds.2.1 28 = .ok (.aload_n 0, 1) := by decide +kernel
theorem dX9_rounds_29 : decode mX9_rounds.2.1 29 = .ok (.getfield 20, 3) := by decide +kernel
theorem dX9_rounds_32 : decode mX9_rounds.2.1 32 = .ok (.aload_n 0, 1) := by decide +kernel
theorem dX9_rounds_33 : decode mX9_rounds.2.1 33 = .ok (.getfield 40, 3) := by decide +kernel
theorem dX9_rounds_36 : decode mX9_rounds.2.1 36 = .ok (.iload_n 1, 1) := by decide +kernel
theorem dX9_rounds_37 : decode mX9_rounds.2.1 37 = .ok (.iload_n 2, 1) := by decide +kernel
theorem dX9_rounds_38 : decode mX9_rounds.2.1 38 = .ok (.aload_n 0, 1) := by decide +kernel
theorem dX9_rounds_39 : decode mX9_rounds.2.1 39 = .ok (.getfield 79, 3) := by decide +kernel
theorem dX9_rounds_42 : decode mX9_rounds.2.1 42 = .ok (.invokevirtual 226, 3) := by decide +kernel
theorem dX9_rounds_45 : decode mX9_rounds.2.1 45 = .ok (.istore_n 3, 1) := by decide +kernel
theorem dX9_rounds_46 : decode mX9_rounds.2.1 46 = .ok (.aload_n 0, 1) := by decide +kernel
theorem dX9_rounds_47 : decode mX9_rounds.2.1 47 = .ok (.aload_n 0, 1) := by decide +kernel
theorem dX9_rounds_48 : decode mX9_rounds.2.1 48 = .ok (.getfield 20, 3) := by decide +kernel
theorem dX9_rounds_51 : decode mX9_rounds.2.1 51 = .ok (.getfield 151, 3) := by decide +kernel
theorem dX9_rounds_54 : decode mX9_rounds.2.1 54 = .ok (.iload_n 1, 1) := by decide +kernel
theorem dX9_rounds_55 : decode mX9_rounds.2.1 55 = .ok (.iaload, 1) := by decide +kernel
theorem dX9_rounds_56 : decode mX9_rounds.2.1 56 = .ok (.putfield 82, 3) := by decide +kernel
theorem dX9_rounds_59 : decode mX9_rounds.2.1 59 = .ok (.iload_n 3, 1) := by decide +kernel
theorem dX9_rounds_60 : decode mX9_rounds.2.1 60 = .ok (.ireturn, 1) := by decide +kernel
theorem bX9_rounds_0 {E : px_E} {d : Nat} {w : pw_W} {Q : Option Value → pw_W → Prop} {t : ct_T} (hw : w.1 = cs t) {x1 x2 : Int32} (ht1 : is_Hamlet t.1) 
    (k1 : ¬ (pX9_isBrother (pw_sI w 1 14 0) t x1) → px_W E mX9_rounds (d + 2) 0 0 22 [.null, .null, .null, .null] [] (pw_sI w 1 14 0) Q)
    (k2 : (pX9_isBrother (pw_sI w 1 14 0) t x1) → (pX9_isWithin x2 14) → px_Call E (d + 1) 0 0 mX4_bestOrder [.ref 41, .ref t.1, .ref 35, .int x1, .int x2, .ref 60] (pw_sI w 1 14 0) (fun v w' => px_W E mX9_rounds (d + 2) 0 0 45 [.ref 1, .int x1, .null, .null] (v.toList ++ []) w' Q))
    (k3 : (pX9_isBrother (pw_sI w 1 14 0) t x1) → ¬ (pX9_isWithin x2 14) → px_W E mX9_rounds (d + 2) 0 0 22 [.null, .null, .null, .null] [] (pw_sI w 1 14 0) Q) :
    px_W E mX9_rounds (d + 2) 0 0 0 [.ref 1, .int x1, .int x2, .null] [] w Q := by
  refine px_aload_n dX9_rounds_0 rfl rfl ?_
  refine px_iconst dX9_rounds_1 ic_0 ?_
  refine px_putI dX9_rounds_2 fl_9_82 (Or.inl rfl) rfl (px_sh1 hw sh_1) rfl rfl (by omega) ?_
  refine px_aload_n dX9_rounds_5 rfl rfl ?_
  refine px_iload_n dX9_rounds_6 rfl rfl ?_
  refine px_callV (As := [.int x1]) (st := []) (rc := 0) (rs := 0) (mc := 0) (ms := 0) dX9_rounds_7 lk_9_145 (px_sh1 (hI hw) sh_1) rfl rfl (Nat.le_of_ble_eq_true rfl) (sX9_isBrother (w := (pw_sI w 1 14 0)) (hI hw) ht1 ?_)
  show px_W E mX9_rounds (d + 2) 0 0 10 [.ref 1, .int x1, .int x2, .null] [.int (jb (pX9_isBrother (pw_sI w 1 14 0) t x1))] (pw_sI w 1 14 0) Q
  refine px_jb_eq (tgt := 22) dX9_rounds_10 (by decide) (fun h1 => ?_) (fun h1 => ?_)
  ·
    exact px_forget (k1 h1) ⟨Or.inl rfl, Or.inl rfl, Or.inl rfl, Or.inl rfl, trivial⟩
  ·
    refine px_iload_n dX9_rounds_13 rfl rfl ?_
    refine px_bipush dX9_rounds_14 bp_14 ?_
    refine px_callS (As := [.int x2, .int 14]) (st := []) (rc := 0) (rs := 0) (mc := 0) (ms := 0) dX9_rounds_16 lk_9_199 rfl rfl (Nat.le_of_ble_eq_true rfl) (sX9_isWithin ?_)
    show px_W E mX9_rounds (d + 2) 0 0 19 [.ref 1, .int x1, .int x2, .null] [.int (jb (pX9_isWithin x2 14))] (pw_sI w 1 14 0) Q
    refine px_jb_ne (tgt := 24) dX9_rounds_19 (by decide) (fun h2 => ?_) (fun h2 => ?_)
    ·
      refine px_aload_n dX9_rounds_24 rfl rfl ?_
      refine px_getR (v := 41) dX9_rounds_25 fr_9_61 rfl (px_sh1 (hI hw) sh_1) (px_rf (hI hw) rf_1_10) (by decide) ?_
      refine px_aload_n dX9_rounds_28 rfl rfl ?_
      refine px_getR (v := t.1) dX9_rounds_29 fr_9_20 rfl (px_sh1 (hI hw) sh_1) (px_rf (hI hw) rf_1_2) ht1.ne ?_
      refine px_aload_n dX9_rounds_32 rfl rfl ?_
      refine px_getR (v := 35) dX9_rounds_33 fr_9_40 rfl (px_sh1 (hI hw) sh_1) (px_rf (hI hw) rf_1_6) (by decide) ?_
      refine px_iload_n dX9_rounds_36 rfl rfl ?_
      refine px_iload_n dX9_rounds_37 rfl rfl ?_
      refine px_aload_n dX9_rounds_38 rfl rfl ?_
      refine px_getR (v := 60) dX9_rounds_39 fr_9_79 rfl (px_sh1 (hI hw) sh_1) (px_rf (hI hw) rf_1_13) (by decide) ?_
      refine px_forget (ls' := [.ref 1, .int x1, .null, .null]) ?_ ⟨Or.inr rfl, Or.inr rfl, Or.inl rfl, Or.inl rfl, trivial⟩
      exact px_callV (As := [.ref t.1, .ref 35, .int x1, .int x2, .ref 60]) (st := []) (rc := 0) (rs := 0) (mc := 0) (ms := 0) dX9_rounds_42 lk_9_226 (px_sh1 (hI hw) sh_41) rfl rfl (Nat.le_of_ble_eq_true rfl) (k2 h1 h2)
    ·
      exact px_forget (k3 h1 h2) ⟨Or.inl rfl, Or.inl rfl, Or.inl rfl, Or.inl rfl, trivial⟩
theorem eX9_rounds {E : px_E} {d : Nat} {w : pw_W} {Q : Option Value → pw_W → Prop} {t : ct_T} (hw : w.1 = cs t) {x1 x2 : Int32} (ht1 : is_Hamlet t.1) 
    (k1 : ¬ (pX9_isBrother (pw_sI w 1 14 0) t x1) → px_W E mX9_rounds (d + 2) 0 0 22 [.null, .null, .null, .null] [] (pw_sI w 1 14 0) Q)
    (k2 : (pX9_isBrother (pw_sI w 1 14 0) t x1) → (pX9_isWithin x2 14) → px_Call E (d + 1) 0 0 mX4_bestOrder [.ref 41, .ref t.1, .ref 35, .int x1, .int x2, .ref 60] (pw_sI w 1 14 0) (fun v w' => px_W E mX9_rounds (d + 2) 0 0 45 [.ref 1, .int x1, .null, .null] (v.toList ++ []) w' Q))
    (k3 : (pX9_isBrother (pw_sI w 1 14 0) t x1) → ¬ (pX9_isWithin x2 14) → px_W E mX9_rounds (d + 2) 0 0 22 [.null, .null, .null, .null] [] (pw_sI w 1 14 0) Q) :
    px_Call E (d + 2) 0 0 mX9_rounds [.ref 1, .int x1, .int x2] w Q :=
  px_enter (k := 1) (by decide) (Nat.le_of_ble_eq_true rfl) rfl (px_forget (bX9_rounds_0 hw ht1 k1 k2 k3) ⟨Or.inr rfl, Or.inr rfl, Or.inr rfl, Or.inl rfl, trivial⟩)
theorem bX9_rounds_22 {E : px_E} {d : Nat} {w : pw_W} {Q : Option Value → pw_W → Prop} {t : ct_T} (hw : w.1 = cs t) (ht1 : is_Hamlet t.1) 
    (k1 : Q (some (.int (-1))) w) :
    px_W E mX9_rounds (d + 2) 0 0 22 [.null, .null, .null, .null] [] w Q := by
  refine px_iconst dX9_rounds_22 ic_m1 ?_
  exact px_ireturn dX9_rounds_23 rfl rfl k1
theorem bX9_rounds_45 {E : px_E} {d : Nat} {w : pw_W} {Q : Option Value → pw_W → Prop} {t : ct_T} (hw : w.1 = cs t) {x1 y0 : Int32} (ht1 : is_Hamlet t.1) (j1 : Nat) (hj1 : x1 = nI j1) (hl1 : j1 < 2)
    (k1 : Q (some (.int y0)) (pw_sI w 1 14 (pw_I w (t.1 + 8) j1))) :
    px_W E mX9_rounds (d + 2) 0 0 45 [.ref 1, .int x1, .null, .null] [.int y0] w Q := by
  refine px_istore_n (ls' := [.ref 1, .int x1, .null, .int y0]) dX9_rounds_45 rfl ⟨by decide, rfl⟩ rfl ?_
  refine px_aload_n dX9_rounds_46 rfl rfl ?_
  refine px_aload_n dX9_rounds_47 rfl rfl ?_
  refine px_getR (v := t.1) dX9_rounds_48 fr_9_20 rfl (px_sh1 hw sh_1) (px_rf hw rf_1_2) ht1.ne ?_
  refine px_getR (v := (t.1 + 8)) dX9_rounds_51 fr_9_151 rfl (px_sh1 hw ht1.sh) (px_rf hw ht1.rf10) (Nat.succ_ne_zero _) ?_
  refine px_iload_n dX9_rounds_54 rfl rfl ?_
  refine px_iald dX9_rounds_55 (px_sh2 hw ht1.sh8) (by decide) j1 hj1 hl1 ?_
  refine px_putI dX9_rounds_56 fl_9_82 (Or.inl rfl) rfl (px_sh1 hw sh_1) rfl rfl (by omega) ?_
  refine px_iload_n dX9_rounds_59 rfl rfl ?_
  exact px_ireturn dX9_rounds_60 rfl rfl k1
theorem dX9_grip_0 : decode mX9_grip.2.1 0 = .ok (.aload_n 0, 1) := by decide +kernel
theorem dX9_grip_1 : decode mX9_grip.2.1 1 = .ok (.iload_n 1, 1) := by decide +kernel
theorem dX9_grip_2 : decode mX9_grip.2.1 2 = .ok (.invokevirtual 113, 3) := by decide +kernel
theorem dX9_grip_5 : decode mX9_grip.2.1 5 = .ok (.ifCond .eq 12, 3) := by decide +kernel
theorem dX9_grip_8 : decode mX9_grip.2.1 8 = .ok (.iload_n 2, 1) := by decide +kernel
theorem dX9_grip_9 : decode mX9_grip.2.1 9 = .ok (.bipush 30, 2) := by decide +kernel
theorem dX9_grip_11 : decode mX9_grip.2.1 11 = .ok (.invokestatic 199, 3) := by decide +kernel
theorem dX9_grip_14 : decode mX9_grip.2.1 14 = .ok (.ifCond .ne 5, 3) := by decide +kernel
theorem dX9_grip_17 : decode mX9_grip.2.1 17 = .ok (.iconst (-1), 1) := by decide +kernel
theorem dX9_grip_18 : decode mX9_grip.2.1 18 = .ok (.ireturn, 1) := by decide +kernel
theorem dX9_grip_19 : decode mX9_grip.2.1 19 = .ok (.aload_n 0, 1) := by decide +kernel
theorem dX9_grip_20 : decode mX9_grip.2.1 20 = .ok (.getfield 61, 3) := by decide +kernel
theorem dX9_grip_23 : decode mX9_grip.2.1 23 = .ok (.aload_n 0, 1) := by decide +kernel
theorem dX9_grip_24 : decode mX9_grip.2.1 24 = .ok (.getfield 20, 3) := by decide +kernel
theorem dX9_grip_27 : decode mX9_grip.2.1 27 = .ok (.aload_n 0, 1) := by decide +kernel
theorem dX9_grip_28 : decode mX9_grip.2.1 28 = .ok (.getfield 40, 3) := by decide +kernel
theorem dX9_grip_31 : decode mX9_grip.2.1 31 = .ok (.iload_n 1, 1) := by decide +kernel
theorem dX9_grip_32 : decode mX9_grip.2.1 32 = .ok (.iload_n 2, 1) := by decide +kernel
theorem dX9_grip_33 : decode mX9_grip.2.1 33 = .ok (.invokevirtual 230, 3) := by decide +kernel
theorem dX9_grip_36 : decode mX9_grip.2.1 36 = .ok (.ireturn, 1) := by decide +kernel
theorem bX9_grip_0 {E : px_E} {d : Nat} {w : pw_W} {Q : Option Value → pw_W → Prop} {t : ct_T} (hw : w.1 = cs t) {x1 x2 : Int32} (ht1 : is_Hamlet t.1) 
    (k1 : ¬ (pX9_isPerson w t x1) → px_W E mX9_grip (d + 2) 0 0 17 [.null, .null, .null] [] w Q)
    (k2 : (pX9_isPerson w t x1) → (pX9_isWithin x2 30) → px_Call E (d + 1) 0 0 mX4_leastGrip [.ref 41, .ref t.1, .ref 35, .int x1, .int x2] w (fun v w' => px_W E mX9_grip (d + 2) 0 0 36 [.null, .null, .null] (v.toList ++ []) w' Q))
    (k3 : (pX9_isPerson w t x1) → ¬ (pX9_isWithin x2 30) → px_W E mX9_grip (d + 2) 0 0 17 [.null, .null, .null] [] w Q) :
    px_W E mX9_grip (d + 2) 0 0 0 [.ref 1, .int x1, .int x2] [] w Q := by
  refine px_aload_n dX9_grip_0 rfl rfl ?_
  refine px_iload_n dX9_grip_1 rfl rfl ?_
  refine px_callV (As := [.int x1]) (st := []) (rc := 0) (rs := 0) (mc := 0) (ms := 0) dX9_grip_2 lk_9_113 (px_sh1 hw sh_1) rfl rfl (Nat.le_of_ble_eq_true rfl) (sX9_isPerson (w := w) hw ht1 ?_)
  show px_W E mX9_grip (d + 2) 0 0 5 [.ref 1, .int x1, .int x2] [.int (jb (pX9_isPerson w t x1))] w Q
  refine px_jb_eq (tgt := 17) dX9_grip_5 (by decide) (fun h1 => ?_) (fun h1 => ?_)
  ·
    exact px_forget (k1 h1) ⟨Or.inl rfl, Or.inl rfl, Or.inl rfl, trivial⟩
  ·
    refine px_iload_n dX9_grip_8 rfl rfl ?_
    refine px_bipush dX9_grip_9 bp_30 ?_
    refine px_callS (As := [.int x2, .int 30]) (st := []) (rc := 0) (rs := 0) (mc := 0) (ms := 0) dX9_grip_11 lk_9_199 rfl rfl (Nat.le_of_ble_eq_true rfl) (sX9_isWithin ?_)
    show px_W E mX9_grip (d + 2) 0 0 14 [.ref 1, .int x1, .int x2] [.int (jb (pX9_isWithin x2 30))] w Q
    refine px_jb_ne (tgt := 19) dX9_grip_14 (by decide) (fun h2 => ?_) (fun h2 => ?_)
    ·
      refine px_aload_n dX9_grip_19 rfl rfl ?_
      refine px_getR (v := 41) dX9_grip_20 fr_9_61 rfl (px_sh1 hw sh_1) (px_rf hw rf_1_10) (by decide) ?_
      refine px_aload_n dX9_grip_23 rfl rfl ?_
      refine px_getR (v := t.1) dX9_grip_24 fr_9_20 rfl (px_sh1 hw sh_1) (px_rf hw rf_1_2) ht1.ne ?_
      refine px_aload_n dX9_grip_27 rfl rfl ?_
      refine px_getR (v := 35) dX9_grip_28 fr_9_40 rfl (px_sh1 hw sh_1) (px_rf hw rf_1_6) (by decide) ?_
      refine px_iload_n dX9_grip_31 rfl rfl ?_
      refine px_iload_n dX9_grip_32 rfl rfl ?_
      refine px_forget (ls' := [.null, .null, .null]) ?_ ⟨Or.inl rfl, Or.inl rfl, Or.inl rfl, trivial⟩
      exact px_callV (As := [.ref t.1, .ref 35, .int x1, .int x2]) (st := []) (rc := 0) (rs := 0) (mc := 0) (ms := 0) dX9_grip_33 lk_9_230 (px_sh1 hw sh_41) rfl rfl (Nat.le_of_ble_eq_true rfl) (k2 h1 h2)
    ·
      exact px_forget (k3 h1 h2) ⟨Or.inl rfl, Or.inl rfl, Or.inl rfl, trivial⟩
theorem eX9_grip {E : px_E} {d : Nat} {w : pw_W} {Q : Option Value → pw_W → Prop} {t : ct_T} (hw : w.1 = cs t) {x1 x2 : Int32} (ht1 : is_Hamlet t.1) 
    (k1 : ¬ (pX9_isPerson w t x1) → px_W E mX9_grip (d + 2) 0 0 17 [.null, .null, .null] [] w Q)
    (k2 : (pX9_isPerson w t x1) → (pX9_isWithin x2 30) → px_Call E (d + 1) 0 0 mX4_leastGrip [.ref 41, .ref t.1, .ref 35, .int x1, .int x2] w (fun v w' => px_W E mX9_grip (d + 2) 0 0 36 [.null, .null, .null] (v.toList ++ []) w' Q))
    (k3 : (pX9_isPerson w t x1) → ¬ (pX9_isWithin x2 30) → px_W E mX9_grip (d + 2) 0 0 17 [.null, .null, .null] [] w Q) :
    px_Call E (d + 2) 0 0 mX9_grip [.ref 1, .int x1, .int x2] w Q :=
  px_enter (k := 0) (by decide) (Nat.le_of_ble_eq_true rfl) rfl (px_forget (bX9_grip_0 hw ht1 k1 k2 k3) ⟨Or.inr rfl, Or.inr rfl, Or.inr rfl, trivial⟩)
theorem bX9_grip_17 {E : px_E} {d : Nat} {w : pw_W} {Q : Option Value → pw_W → Prop} {t : ct_T} (hw : w.1 = cs t) (ht1 : is_Hamlet t.1) 
    (k1 : Q (some (.int (-1))) w) :
    px_W E mX9_grip (d + 2) 0 0 17 [.null, .null, .null] [] w Q := by
  refine px_iconst dX9_grip_17 ic_m1 ?_
  exact px_ireturn dX9_grip_18 rfl rfl k1
theorem bX9_grip_36 {E : px_E} {d : Nat} {w : pw_W} {Q : Option Value → pw_W → Prop} {t : ct_T} (hw : w.1 = cs t) {y0 : Int32} (ht1 : is_Hamlet t.1) 
    (k1 : Q (some (.int y0)) w) :
    px_W E mX9_grip (d + 2) 0 0 36 [.null, .null, .null] [.int y0] w Q := by
  exact px_ireturn dX9_grip_36 rfl rfl k1
theorem dX9_pupil_0 : decode mX9_pupil.2.1 0 = .ok (.iload_n 1, 1) := by decide +kernel
theorem dX9_pupil_1 : decode mX9_pupil.2.1 1 = .ok (.bipush 30, 2) := by decide +kernel
theorem dX9_pupil_3 : decode mX9_pupil.2.1 3 = .ok (.invokestatic 199, 3) := by decide +kernel
theorem dX9_pupil_6 : decode mX9_pupil.2.1 6 = .ok (.ifCond .eq 10, 3) := by decide +kernel
theorem dX9_pupil_9 : decode mX9_pupil.2.1 9 = .ok (.iload_n 2, 1) := by decide +kernel
theorem dX9_pupil_10 : decode mX9_pupil.2.1 10 = .ok (.invokestatic 157, 3) := by decide +kernel
theorem dX9_pupil_13 : decode mX9_pupil.2.1 13 = .ok (.ifCond .ne 5, 3) := by decide +kernel
theorem dX9_pupil_16 : decode mX9_pupil.2.1 16 = .ok (.iconst (-1), 1) := by decide +kernel
theorem dX9_pupil_17 : decode mX9_pupil.2.1 17 = .ok (.ireturn, 1) := by decide +kernel
theorem dX9_pupil_18 : decode mX9_pupil.2.1 18 = .ok (.aload_n 0, 1) := by decide +kernel
theorem dX9_pupil_19 : decode mX9_pupil.2.1 19 = .ok (.getfield 61, 3) := by decide +kernel
theorem dX9_pupil_22 : decode mX9_pupil.2.1 22 = .ok (.aload_n 0, 1) := by decide +kernel
theorem dX9_pupil_23 : decode mX9_pupil.2.1 23 = .ok (.getfield 20, 3) := by decide +kernel
theorem dX9_pupil_26 : decode mX9_pupil.2.1 26 = .ok (.aload_n 0, 1) := by decide +kernel
theorem dX9_pupil_27 : decode mX9_pupil.2.1 27 = .ok (.getfield 40, 3) := by decide +kernel
theorem dX9_pupil_30 : decode mX9_pupil.2.1 30 = .ok (.iload_n 1, 1) := by decide +kernel
theorem dX9_pupil_31 : decode mX9_pupil.2.1 31 = .ok (.invokevirtual 233, 3) := by decide +kernel
theorem dX9_pupil_34 : decode mX9_pupil.2.1 34 = .ok (.aload_n 0, 1) := by decide +kernel
theorem dX9_pupil_35 : decode mX9_pupil.2.1 35 = .ok (.iload_n 2, 1) := by decide +kernel
theorem dX9_pupil_36 : decode mX9_pupil.2.1 36 = .ok (.invokevirtual 237, 3) := by decide +kernel
theorem dX9_pupil_39 : decode mX9_pupil.2.1 39 = .ok (.ireturn, 1) := by decide +kernel
theorem bX9_pupil_0 {E : px_E} {d : Nat} {w : pw_W} {Q : Option Value → pw_W → Prop} {t : ct_T} (hw : w.1 = cs t) {x1 x2 : Int32} (ht1 : is_Hamlet t.1) 
    (k1 : ¬ (pX9_isWithin x1 30) → px_W E mX9_pupil (d + 2) 0 0 16 [.null, .null, .null] [] w Q)
    (k2 : (pX9_isWithin x1 30) → (pX9_isZeroOrOne x2) → px_Call E (d + 1) 0 0 mX4_choosePupil [.ref 41, .ref t.1, .ref 35, .int x1] w (fun v w' => px_W E mX9_pupil (d + 2) 0 0 34 [.ref 1, .null, .int x2] (v.toList ++ []) w' Q))
    (k3 : (pX9_isWithin x1 30) → ¬ (pX9_isZeroOrOne x2) → px_W E mX9_pupil (d + 2) 0 0 16 [.null, .null, .null] [] w Q) :
    px_W E mX9_pupil (d + 2) 0 0 0 [.ref 1, .int x1, .int x2] [] w Q := by
  refine px_iload_n dX9_pupil_0 rfl rfl ?_
  refine px_bipush dX9_pupil_1 bp_30 ?_
  refine px_callS (As := [.int x1, .int 30]) (st := []) (rc := 0) (rs := 0) (mc := 0) (ms := 0) dX9_pupil_3 lk_9_199 rfl rfl (Nat.le_of_ble_eq_true rfl) (sX9_isWithin ?_)
  show px_W E mX9_pupil (d + 2) 0 0 6 [.ref 1, .int x1, .int x2] [.int (jb (pX9_isWithin x1 30))] w Q
  refine px_jb_eq (tgt := 16) dX9_pupil_6 (by decide) (fun h1 => ?_) (fun h1 => ?_)
  ·
    exact px_forget (k1 h1) ⟨Or.inl rfl, Or.inl rfl, Or.inl rfl, trivial⟩
  ·
    refine px_iload_n dX9_pupil_9 rfl rfl ?_
    refine px_callS (As := [.int x2]) (st := []) (rc := 0) (rs := 0) (mc := 0) (ms := 0) dX9_pupil_10 lk_9_157 rfl rfl (Nat.le_of_ble_eq_true rfl) (sX9_isZeroOrOne ?_)
    show px_W E mX9_pupil (d + 2) 0 0 13 [.ref 1, .int x1, .int x2] [.int (jb (pX9_isZeroOrOne x2))] w Q
    refine px_jb_ne (tgt := 18) dX9_pupil_13 (by decide) (fun h2 => ?_) (fun h2 => ?_)
    ·
      refine px_aload_n dX9_pupil_18 rfl rfl ?_
      refine px_getR (v := 41) dX9_pupil_19 fr_9_61 rfl (px_sh1 hw sh_1) (px_rf hw rf_1_10) (by decide) ?_
      refine px_aload_n dX9_pupil_22 rfl rfl ?_
      refine px_getR (v := t.1) dX9_pupil_23 fr_9_20 rfl (px_sh1 hw sh_1) (px_rf hw rf_1_2) ht1.ne ?_
      refine px_aload_n dX9_pupil_26 rfl rfl ?_
      refine px_getR (v := 35) dX9_pupil_27 fr_9_40 rfl (px_sh1 hw sh_1) (px_rf hw rf_1_6) (by decide) ?_
      refine px_iload_n dX9_pupil_30 rfl rfl ?_
      refine px_forget (ls' := [.ref 1, .null, .int x2]) ?_ ⟨Or.inr rfl, Or.inl rfl, Or.inr rfl, trivial⟩
      exact px_callV (As := [.ref t.1, .ref 35, .int x1]) (st := []) (rc := 0) (rs := 0) (mc := 0) (ms := 0) dX9_pupil_31 lk_9_233 (px_sh1 hw sh_41) rfl rfl (Nat.le_of_ble_eq_true rfl) (k2 h1 h2)
    ·
      exact px_forget (k3 h1 h2) ⟨Or.inl rfl, Or.inl rfl, Or.inl rfl, trivial⟩
theorem eX9_pupil {E : px_E} {d : Nat} {w : pw_W} {Q : Option Value → pw_W → Prop} {t : ct_T} (hw : w.1 = cs t) {x1 x2 : Int32} (ht1 : is_Hamlet t.1) 
    (k1 : ¬ (pX9_isWithin x1 30) → px_W E mX9_pupil (d + 2) 0 0 16 [.null, .null, .null] [] w Q)
    (k2 : (pX9_isWithin x1 30) → (pX9_isZeroOrOne x2) → px_Call E (d + 1) 0 0 mX4_choosePupil [.ref 41, .ref t.1, .ref 35, .int x1] w (fun v w' => px_W E mX9_pupil (d + 2) 0 0 34 [.ref 1, .null, .int x2] (v.toList ++ []) w' Q))
    (k3 : (pX9_isWithin x1 30) → ¬ (pX9_isZeroOrOne x2) → px_W E mX9_pupil (d + 2) 0 0 16 [.null, .null, .null] [] w Q) :
    px_Call E (d + 2) 0 0 mX9_pupil [.ref 1, .int x1, .int x2] w Q :=
  px_enter (k := 0) (by decide) (Nat.le_of_ble_eq_true rfl) rfl (px_forget (bX9_pupil_0 hw ht1 k1 k2 k3) ⟨Or.inr rfl, Or.inr rfl, Or.inr rfl, trivial⟩)
theorem bX9_pupil_16 {E : px_E} {d : Nat} {w : pw_W} {Q : Option Value → pw_W → Prop} {t : ct_T} (hw : w.1 = cs t) (ht1 : is_Hamlet t.1) 
    (k1 : Q (some (.int (-1))) w) :
    px_W E mX9_pupil (d + 2) 0 0 16 [.null, .null, .null] [] w Q := by
  refine px_iconst dX9_pupil_16 ic_m1 ?_
  exact px_ireturn dX9_pupil_17 rfl rfl k1
theorem bX9_pupil_34 {E : px_E} {d : Nat} {w : pw_W} {Q : Option Value → pw_W → Prop} {t : ct_T} (hw : w.1 = cs t) {x2 : Int32} (ht1 : is_Hamlet t.1) 
    (k1 : px_Call E (d + 1) 0 0 mX9_chosen [.ref 1, .int x2] w (fun v w' => px_W E mX9_pupil (d + 2) 0 0 39 [.null, .null, .null] (v.toList ++ []) w' Q)) :
    px_W E mX9_pupil (d + 2) 0 0 34 [.ref 1, .null, .int x2] [] w Q := by
  refine px_aload_n dX9_pupil_34 rfl rfl ?_
  refine px_iload_n dX9_pupil_35 rfl rfl ?_
  refine px_forget (ls' := [.null, .null, .null]) ?_ ⟨Or.inl rfl, Or.inl rfl, Or.inl rfl, trivial⟩
  exact px_callV (As := [.int x2]) (st := []) (rc := 0) (rs := 0) (mc := 0) (ms := 0) dX9_pupil_36 lk_9_237 (px_sh1 hw sh_1) rfl rfl (Nat.le_of_ble_eq_true rfl) k1
theorem bX9_pupil_39 {E : px_E} {d : Nat} {w : pw_W} {Q : Option Value → pw_W → Prop} {t : ct_T} (hw : w.1 = cs t) {y0 : Int32} (ht1 : is_Hamlet t.1) 
    (k1 : Q (some (.int y0)) w) :
    px_W E mX9_pupil (d + 2) 0 0 39 [.null, .null, .null] [.int y0] w Q := by
  exact px_ireturn dX9_pupil_39 rfl rfl k1
theorem dX9_evenings_0 : decode mX9_evenings.2.1 0 = .ok (.aload_n 0, 1) := by decide +kernel
theorem dX9_evenings_1 : decode mX9_evenings.2.1 1 = .ok (.getfield 68, 3) := by decide +kernel
theorem dX9_evenings_4 : decode mX9_evenings.2.1 4 = .ok (.aload_n 0, 1) := by decide +kernel
theorem dX9_evenings_5 : decode mX9_evenings.2.1 5 = .ok (.getfield 20, 3) := by decide +kernel
theorem dX9_evenings_8 : decode mX9_evenings.2.1 8 = .ok (.aload_n 0, 1) := by decide +kernel
theorem dX9_evenings_9 : decode mX9_evenings.2.1 9 = .ok (.getfield 40, 3) := by decide +kernel
theorem dX9_evenings_12 : decode mX9_evenings.2.1 12 = .ok (.getfield 240, 3) := by decide +kernel
theorem dX9_evenings_15 : decode mX9_evenings.2.1 15 = .ok (.aload_n 0, 1) := by decide +kernel
theorem dX9_evenings_16 : decode mX9_evenings.2.1 16 = .ok (.getfield 79, 3) := by decide +kernel
theorem dX9_evenings_19 : decode mX9_evenings.2.1 19 = .ok (.invokevirtual 243, 3) := by decide +kernel
theorem dX9_evenings_22 : decode mX9_evenings.2.1 22 = .ok (.istore_n 1, 1) := by decide +kernel
theorem dX9_evenings_23 : decode mX9_evenings.2.1 23 = .ok (.aload_n 0, 1) := by decide +kernel
theorem dX9_evenings_24 : decode mX9_evenings.2.1 24 = .ok (.aload_n 0, 1) := by decide +kernel
theorem dX9_evenings_25 : decode mX9_evenings.2.1 25 = .ok (.getfield 20, 3) := by decide +kernel
theorem dX9_evenings_28 : decode mX9_evenings.2.1 28 = .ok (.getfield 110, 3) := by decide +kernel
theorem dX9_evenings_31 : decode mX9_evenings.2.1 31 = .ok (.putfield 82, 3) := by decide +kernel
theorem dX9_evenings_34 : decode mX9_evenings.2.1 34 = .ok (.iload_n 1, 1) := by decide +kernel
theorem dX9_evenings_35 : decode mX9_evenings.2.1 35 = .ok (.ireturn, 1) := by decide +kernel
theorem bX9_evenings_0 {E : px_E} {d : Nat} {w : pw_W} {Q : Option Value → pw_W → Prop} {t : ct_T} (hw : w.1 = cs t) (ht1 : is_Hamlet t.1) 
    (k1 : px_Call E d 0 0 mX0_fewestGroups [.ref 46, .ref t.1, .int (pw_I w 35 2), .ref 60] w (fun v w' => px_W E mX9_evenings (d + 1) 0 0 22 [.ref 1, .null] (v.toList ++ []) w' Q)) :
    px_W E mX9_evenings (d + 1) 0 0 0 [.ref 1, .null] [] w Q := by
  refine px_aload_n dX9_evenings_0 rfl rfl ?_
  refine px_getR (v := 46) dX9_evenings_1 fr_9_68 rfl (px_sh1 hw sh_1) (px_rf hw rf_1_11) (by decide) ?_
  refine px_aload_n dX9_evenings_4 rfl rfl ?_
  refine px_getR (v := t.1) dX9_evenings_5 fr_9_20 rfl (px_sh1 hw sh_1) (px_rf hw rf_1_2) ht1.ne ?_
  refine px_aload_n dX9_evenings_8 rfl rfl ?_
  refine px_getR (v := 35) dX9_evenings_9 fr_9_40 rfl (px_sh1 hw sh_1) (px_rf hw rf_1_6) (by decide) ?_
  refine px_getI dX9_evenings_12 fr_9_240 rfl (px_sh1 hw sh_35) ?_
  refine px_aload_n dX9_evenings_15 rfl rfl ?_
  refine px_getR (v := 60) dX9_evenings_16 fr_9_79 rfl (px_sh1 hw sh_1) (px_rf hw rf_1_13) (by decide) ?_
  exact px_callV (As := [.ref t.1, .int (pw_I w 35 2), .ref 60]) (st := []) (rc := 0) (rs := 0) (mc := 0) (ms := 0) dX9_evenings_19 lk_9_243 (px_sh1 hw sh_46) rfl rfl (Nat.le_of_ble_eq_true rfl) k1
theorem eX9_evenings {E : px_E} {d : Nat} {w : pw_W} {Q : Option Value → pw_W → Prop} {t : ct_T} (hw : w.1 = cs t) (ht1 : is_Hamlet t.1) 
    (k1 : px_Call E d 0 0 mX0_fewestGroups [.ref 46, .ref t.1, .int (pw_I w 35 2), .ref 60] w (fun v w' => px_W E mX9_evenings (d + 1) 0 0 22 [.ref 1, .null] (v.toList ++ []) w' Q)) :
    px_Call E (d + 1) 0 0 mX9_evenings [.ref 1] w Q :=
  px_enter (k := 1) (by decide) (Nat.le_of_ble_eq_true rfl) rfl (px_forget (bX9_evenings_0 hw ht1 k1) ⟨Or.inr rfl, Or.inl rfl, trivial⟩)
theorem bX9_evenings_22 {E : px_E} {d : Nat} {w : pw_W} {Q : Option Value → pw_W → Prop} {t : ct_T} (hw : w.1 = cs t) {y0 : Int32} (ht1 : is_Hamlet t.1) 
    (k1 : Q (some (.int y0)) (pw_sI w 1 14 (pw_I w t.1 0))) :
    px_W E mX9_evenings (d + 1) 0 0 22 [.ref 1, .null] [.int y0] w Q := by
  refine px_istore_n (ls' := [.ref 1, .int y0]) dX9_evenings_22 rfl ⟨by decide, rfl⟩ rfl ?_
  refine px_aload_n dX9_evenings_23 rfl rfl ?_
  refine px_aload_n dX9_evenings_24 rfl rfl ?_
  refine px_getR (v := t.1) dX9_evenings_25 fr_9_20 rfl (px_sh1 hw sh_1) (px_rf hw rf_1_2) ht1.ne ?_
  refine px_getI dX9_evenings_28 fr_9_110 rfl (px_sh1 hw ht1.sh) ?_
  refine px_putI dX9_evenings_31 fl_9_82 (Or.inl rfl) rfl (px_sh1 hw sh_1) rfl rfl (by omega) ?_
  refine px_iload_n dX9_evenings_34 rfl rfl ?_
  exact px_ireturn dX9_evenings_35 rfl rfl k1
theorem dX9_rumour_0 : decode mX9_rumour.2.1 0 = .ok (.aload_n 0, 1) := by decide +kernel
theorem dX9_rumour_1 : decode mX9_rumour.2.1 1 = .ok (.iload_n 1, 1) := by decide +kernel
theorem dX9_rumour_2 : decode mX9_rumour.2.1 2 = .ok (.invokevirtual 113, 3) := by decide +kernel
theorem dX9_rumour_5 : decode mX9_rumour.2.1 5 = .ok (.ifCond .eq 11, 3) := by decide +kernel
theorem dX9_rumour_8 : decode mX9_rumour.2.1 8 = .ok (.aload_n 0, 1) := by decide +kernel
theorem dX9_rumour_9 : decode mX9_rumour.2.1 9 = .ok (.iload_n 2, 1) := by decide +kernel
theorem dX9_rumour_10 : decode mX9_rumour.2.1 10 = .ok (.invokevirtual 113, 3) := by decide +kernel
theorem dX9_rumour_13 : decode mX9_rumour.2.1 13 = .ok (.ifCond .ne 5, 3) := by decide +kernel
theorem dX9_rumour_16 : decode mX9_rumour.2.1 16 = .ok (.iconst (-1), 1) := by decide +kernel
theorem dX9_rumour_17 : decode mX9_rumour.2.1 17 = .ok (.ireturn, 1) := by decide +kernel
theorem dX9_rumour_18 : decode mX9_rumour.2.1 18 = .ok (.aload_n 0, 1) := by decide +kernel
theorem dX9_rumour_19 : decode mX9_rumour.2.1 19 = .ok (.getfield 68, 3) := by decide +kernel
theorem dX9_rumour_22 : decode mX9_rumour.2.1 22 = .ok (.aload_n 0, 1) := by decide +kernel
theorem dX9_rumour_23 : decode mX9_rumour.2.1 23 = .ok (.getfield 20, 3) := by decide +kernel
theorem dX9_rumour_26 : decode mX9_rumour.2.1 26 = .ok (.aload_n 0, 1) := by decide +kernel
theorem dX9_rumour_27 : decode mX9_rumour.2.1 27 = .ok (.getfield 40, 3) := by decide +kernel
theorem dX9_rumour_30 : decode mX9_rumour.2.1 30 = .ok (.getfield 240, 3) := by decide +kernel
theorem dX9_rumour_33 : decode mX9_rumour.2.1 33 = .ok (.iload_n 1, 1) := by decide +kernel
theorem dX9_rumour_34 : decode mX9_rumour.2.1 34 = .ok (.iload_n 2, 1) := by decide +kernel
theorem dX9_rumour_35 : decode mX9_rumour.2.1 35 = .ok (.invokevirtual 247, 3) := by decide +kernel
theorem dX9_rumour_38 : decode mX9_rumour.2.1 38 = .ok (.ireturn, 1) := by decide +kernel
theorem bX9_rumour_0 {E : px_E} {d : Nat} {w : pw_W} {Q : Option Value → pw_W → Prop} {t : ct_T} (hw : w.1 = cs t) {x1 x2 : Int32} (ht1 : is_Hamlet t.1) 
    (k1 : ¬ (pX9_isPerson w t x1) → px_W E mX9_rumour (d + 2) 0 0 16 [.null, .null, .null] [] w Q)
    (k2 : (pX9_isPerson w t x1) → (pX9_isPerson w t x2) → px_Call E (d + 1) 0 0 mX0_stepsBetween [.ref 46, .ref t.1, .int (pw_I w 35 2), .int x1, .int x2] w (fun v w' => px_W E mX9_rumour (d + 2) 0 0 38 [.null, .null, .null] (v.toList ++ []) w' Q))
    (k3 : (pX9_isPerson w t x1) → ¬ (pX9_isPerson w t x2) → px_W E mX9_rumour (d + 2) 0 0 16 [.null, .null, .null] [] w Q) :
    px_W E mX9_rumour (d + 2) 0 0 0 [.ref 1, .int x1, .int x2] [] w Q := by
  refine px_aload_n dX9_rumour_0 rfl rfl ?_
  refine px_iload_n dX9_rumour_1 rfl rfl ?_
  refine px_callV (As := [.int x1]) (st := []) (rc := 0) (rs := 0) (mc := 0) (ms := 0) dX9_rumour_2 lk_9_113 (px_sh1 hw sh_1) rfl rfl (Nat.le_of_ble_eq_true rfl) (sX9_isPerson (w := w) hw ht1 ?_)
  show px_W E mX9_rumour (d + 2) 0 0 5 [.ref 1, .int x1, .int x2] [.int (jb (pX9_isPerson w t x1))] w Q
  refine px_jb_eq (tgt := 16) dX9_rumour_5 (by decide) (fun h1 => ?_) (fun h1 => ?_)
  ·
    exact px_forget (k1 h1) ⟨Or.inl rfl, Or.inl rfl, Or.inl rfl, trivial⟩
  ·
    refine px_aload_n dX9_rumour_8 rfl rfl ?_
    refine px_iload_n dX9_rumour_9 rfl rfl ?_
    refine px_callV (As := [.int x2]) (st := []) (rc := 0) (rs := 0) (mc := 0) (ms := 0) dX9_rumour_10 lk_9_113 (px_sh1 hw sh_1) rfl rfl (Nat.le_of_ble_eq_true rfl) (sX9_isPerson (w := w) hw ht1 ?_)
    show px_W E mX9_rumour (d + 2) 0 0 13 [.ref 1, .int x1, .int x2] [.int (jb (pX9_isPerson w t x2))] w Q
    refine px_jb_ne (tgt := 18) dX9_rumour_13 (by decide) (fun h2 => ?_) (fun h2 => ?_)
    ·
      refine px_aload_n dX9_rumour_18 rfl rfl ?_
      refine px_getR (v := 46) dX9_rumour_19 fr_9_68 rfl (px_sh1 hw sh_1) (px_rf hw rf_1_11) (by decide) ?_
      refine px_aload_n dX9_rumour_22 rfl rfl ?_
      refine px_getR (v := t.1) dX9_rumour_23 fr_9_20 rfl (px_sh1 hw sh_1) (px_rf hw rf_1_2) ht1.ne ?_
      refine px_aload_n dX9_rumour_26 rfl rfl ?_
      refine px_getR (v := 35) dX9_rumour_27 fr_9_40 rfl (px_sh1 hw sh_1) (px_rf hw rf_1_6) (by decide) ?_
      refine px_getI dX9_rumour_30 fr_9_240 rfl (px_sh1 hw sh_35) ?_
      refine px_iload_n dX9_rumour_33 rfl rfl ?_
      refine px_iload_n dX9_rumour_34 rfl rfl ?_
      refine px_forget (ls' := [.null, .null, .null]) ?_ ⟨Or.inl rfl, Or.inl rfl, Or.inl rfl, trivial⟩
      exact px_callV (As := [.ref t.1, .int (pw_I w 35 2), .int x1, .int x2]) (st := []) (rc := 0) (rs := 0) (mc := 0) (ms := 0) dX9_rumour_35 lk_9_247 (px_sh1 hw sh_46) rfl rfl (Nat.le_of_ble_eq_true rfl) (k2 h1 h2)
    ·
      exact px_forget (k3 h1 h2) ⟨Or.inl rfl, Or.inl rfl, Or.inl rfl, trivial⟩
theorem eX9_rumour {E : px_E} {d : Nat} {w : pw_W} {Q : Option Value → pw_W → Prop} {t : ct_T} (hw : w.1 = cs t) {x1 x2 : Int32} (ht1 : is_Hamlet t.1) 
    (k1 : ¬ (pX9_isPerson w t x1) → px_W E mX9_rumour (d + 2) 0 0 16 [.null, .null, .null] [] w Q)
    (k2 : (pX9_isPerson w t x1) → (pX9_isPerson w t x2) → px_Call E (d + 1) 0 0 mX0_stepsBetween [.ref 46, .ref t.1, .int (pw_I w 35 2), .int x1, .int x2] w (fun v w' => px_W E mX9_rumour (d + 2) 0 0 38 [.null, .null, .null] (v.toList ++ []) w' Q))
    (k3 : (pX9_isPerson w t x1) → ¬ (pX9_isPerson w t x2) → px_W E mX9_rumour (d + 2) 0 0 16 [.null, .null, .null] [] w Q) :
    px_Call E (d + 2) 0 0 mX9_rumour [.ref 1, .int x1, .int x2] w Q :=
  px_enter (k := 0) (by decide) (Nat.le_of_ble_eq_true rfl) rfl (px_forget (bX9_rumour_0 hw ht1 k1 k2 k3) ⟨Or.inr rfl, Or.inr rfl, Or.inr rfl, trivial⟩)
theorem bX9_rumour_16 {E : px_E} {d : Nat} {w : pw_W} {Q : Option Value → pw_W → Prop} {t : ct_T} (hw : w.1 = cs t) (ht1 : is_Hamlet t.1) 
    (k1 : Q (some (.int (-1))) w) :
    px_W E mX9_rumour (d + 2) 0 0 16 [.null, .null, .null] [] w Q := by
  refine px_iconst dX9_rumour_16 ic_m1 ?_
  exact px_ireturn dX9_rumour_17 rfl rfl k1
theorem bX9_rumour_38 {E : px_E} {d : Nat} {w : pw_W} {Q : Option Value → pw_W → Prop} {t : ct_T} (hw : w.1 = cs t) {y0 : Int32} (ht1 : is_Hamlet t.1) 
    (k1 : Q (some (.int y0)) w) :
    px_W E mX9_rumour (d + 2) 0 0 38 [.null, .null, .null] [.int y0] w Q := by
  exact px_ireturn dX9_rumour_38 rfl rfl k1
theorem dX9_manners_0 : decode mX9_manners.2.1 0 = .ok (.aload_n 0, 1) := by decide +kernel
theorem dX9_manners_1 : decode mX9_manners.2.1 1 = .ok (.getfield 61, 3) := by decide +kernel
theorem dX9_manners_4 : decode mX9_manners.2.1 4 = .ok (.aload_n 0, 1) := by decide +kernel
theorem dX9_manners_5 : decode mX9_manners.2.1 5 = .ok (.getfield 20, 3) := by decide +kernel
theorem dX9_manners_8 : decode mX9_manners.2.1 8 = .ok (.aload_n 0, 1) := by decide +kernel
theorem dX9_manners_9 : decode mX9_manners.2.1 9 = .ok (.getfield 40, 3) := by decide +kernel
theorem dX9_manners_12 : decode mX9_manners.2.1 12 = .ok (.bipush 60, 2) := by decide +kernel
theorem dX9_manners_14 : decode mX9_manners.2.1 14 = .ok (.invokevirtual 251, 3) := by decide +kernel
theorem dX9_manners_17 : decode mX9_manners.2.1 17 = .ok (.ireturn, 1) := by decide +kernel
theorem bX9_manners_0 {E : px_E} {d : Nat} {w : pw_W} {Q : Option Value → pw_W → Prop} {t : ct_T} (hw : w.1 = cs t) (ht1 : is_Hamlet t.1) 
    (k1 : px_Call E d 0 0 mX4_daysTillSettled [.ref 41, .ref t.1, .ref 35, .int 60] w (fun v w' => px_W E mX9_manners (d + 1) 0 0 17 [.null] (v.toList ++ []) w' Q)) :
    px_W E mX9_manners (d + 1) 0 0 0 [.ref 1] [] w Q := by
  refine px_aload_n dX9_manners_0 rfl rfl ?_
  refine px_getR (v := 41) dX9_manners_1 fr_9_61 rfl (px_sh1 hw sh_1) (px_rf hw rf_1_10) (by decide) ?_
  refine px_aload_n dX9_manners_4 rfl rfl ?_
  refine px_getR (v := t.1) dX9_manners_5 fr_9_20 rfl (px_sh1 hw sh_1) (px_rf hw rf_1_2) ht1.ne ?_
  refine px_aload_n dX9_manners_8 rfl rfl ?_
  refine px_getR (v := 35) dX9_manners_9 fr_9_40 rfl (px_sh1 hw sh_1) (px_rf hw rf_1_6) (by decide) ?_
  refine px_bipush dX9_manners_12 bp_60 ?_
  refine px_forget (ls' := [.null]) ?_ ⟨Or.inl rfl, trivial⟩
  exact px_callV (As := [.ref t.1, .ref 35, .int 60]) (st := []) (rc := 0) (rs := 0) (mc := 0) (ms := 0) dX9_manners_14 lk_9_251 (px_sh1 hw sh_41) rfl rfl (Nat.le_of_ble_eq_true rfl) k1
theorem eX9_manners {E : px_E} {d : Nat} {w : pw_W} {Q : Option Value → pw_W → Prop} {t : ct_T} (hw : w.1 = cs t) (ht1 : is_Hamlet t.1) 
    (k1 : px_Call E d 0 0 mX4_daysTillSettled [.ref 41, .ref t.1, .ref 35, .int 60] w (fun v w' => px_W E mX9_manners (d + 1) 0 0 17 [.null] (v.toList ++ []) w' Q)) :
    px_Call E (d + 1) 0 0 mX9_manners [.ref 1] w Q :=
  px_enter (k := 0) (by decide) (Nat.le_of_ble_eq_true rfl) rfl (px_forget (bX9_manners_0 hw ht1 k1) ⟨Or.inr rfl, trivial⟩)
theorem bX9_manners_17 {E : px_E} {d : Nat} {w : pw_W} {Q : Option Value → pw_W → Prop} {t : ct_T} (hw : w.1 = cs t) {y0 : Int32} (ht1 : is_Hamlet t.1) 
    (k1 : Q (some (.int y0)) w) :
    px_W E mX9_manners (d + 1) 0 0 17 [.null] [.int y0] w Q := by
  exact px_ireturn dX9_manners_17 rfl rfl k1
theorem dX9_duel_0 : decode mX9_duel.2.1 0 = .ok (.aload_n 0, 1) := by decide +kernel
theorem dX9_duel_1 : decode mX9_duel.2.1 1 = .ok (.iconst 0, 1) := by decide +kernel
theorem dX9_duel_2 : decode mX9_duel.2.1 2 = .ok (.putfield 82, 3) := by decide +kernel
theorem dX9_duel_5 : decode mX9_duel.2.1 5 = .ok (.aload_n 0, 1) := by decide +kernel
theorem dX9_duel_6 : decode mX9_duel.2.1 6 = .ok (.iload_n 1, 1) := by decide +kernel
theorem dX9_duel_7 : decode mX9_duel.2.1 7 = .ok (.invokevirtual 130, 3) := by decide +kernel
theorem dX9_duel_10 : decode mX9_duel.2.1 10 = .ok (.ifCond .ne 5, 3) := by decide +kernel
theorem dX9_duel_13 : decode mX9_duel.2.1 13 = .ok (.iconst (-1), 1) := by decide +kernel
theorem dX9_duel_14 : decode mX9_duel.2.1 14 = .ok (.ireturn, 1) := by decide +kernel
theorem dX9_duel_15 : decode mX9_duel.2.1 15 = .ok (.iconst 0, 1) := by decide +kernel
theorem dX9_duel_16 : decode mX9_duel.2.1 16 = .ok (.istore_n 2, 1) := by decide +kernel
theorem dX9_duel_17 : decode mX9_duel.2.1 17 = .ok (.iconst 0, 1) := by decide +kernel
theorem dX9_duel_18 : decode mX9_duel.2.1 18 = .ok (.istore_n 3, 1) := by decide +kernel
theorem dX9_duel_19 : decode mX9_duel.2.1 19 = .ok (.iload_n 3, 1) := by decide +kernel
theorem dX9_duel_20 : decode mX9_duel.2.1 20 = .ok (.iconst 4, 1) := by decide +kernel
theorem dX9_duel_21 : decode mX9_duel.2.1 21 = .ok (.if_icmp .ge 64, 3) := by decide +kernel
theorem dX9_duel_24 : decode mX9_duel.2.1 24 = .ok (.aload_n 0, 1) := by decide +kernel
theorem dX9_duel_25 : decode mX9_duel.2.1 25 = .ok (.getfield 61, 3) := by decide +kernel
theorem dX9_duel_28 : decode mX9_duel.2.1 28 = .ok (.aload_n 0, 1) := by decide +kernel
theorem dX9_duel_29 : decode mX9_duel.2.1 29 = .ok (.getfield 20, 3) := by decide +kernel
theorem dX9_duel_32 : decode mX9_duel.2.1 32 = .ok (.aload_n 0, 1) := by decide +kernel
theorem dX9_duel_33 : decode mX9_duel.2.1 33 = .ok (.getfield 40, 3) := by decide +kernel
theorem dX9_duel_36 : decode mX9_duel.2.1 36 = .ok (.iload_n 1, 1) := by decide +kernel
theorem dX9_duel_37 : decode mX9_duel.2.1 37 = .ok (.iload_n 3, 1) := by decide +kernel
theorem dX9_duel_38 : decode mX9_duel.2.1 38 = .ok (.iconst 1, 1) := by decide +kernel
theorem dX9_duel_39 : decode mX9_duel.2.1 39 = .ok (.ishr, 1) := by decide +kernel
theorem dX9_duel_40 : decode mX9_duel.2.1 40 = .ok (.iload_n 3, 1) := by decide +kernel
theorem dX9_duel_41 : decode mX9_duel.2.1 41 = .ok (.iconst 1, 1) := by decide +kernel
theorem dX9_duel_42 : decode mX9_duel.2.1 42 = .ok (.iand, 1) := by decide +kernel
theorem dX9_duel_43 : decode mX9_duel.2.1 43 = .ok (.invokevirtual 254, 3) := by decide +kernel
theorem dX9_duel_46 : decode mX9_duel.2.1 46 = .ok (.ifCond .eq 33, 3) := by decide +kernel
theorem dX9_duel_49 : decode mX9_duel.2.1 49 = .ok (.iload_n 2, 1) := by decide +kernel
theorem dX9_duel_50 : decode mX9_duel.2.1 50 = .ok (.ifCond .ne 26, 3) := by decide +kernel
theorem dX9_duel_53 : decode mX9_duel.2.1 53 = .ok (.aload_n 0, 1) := by decide +kernel
theorem dX9_duel_54 : decode mX9_duel.2.1 54 = .ok (.getfield 79, 3) := by decide +kernel
theorem dX9_duel_57 : decode mX9_duel.2.1 57 = .ok (.iconst 0, 1) := by decide +kernel
theorem dX9_duel_58 : decode mX9_duel.2.1 58 = .ok (.iload_n 3, 1) := by decide +kernel
theorem dX9_duel_59 : decode mX9_duel.2.1 59 = .ok (.iconst 1, 1) := by decide +kernel
theorem dX9_duel_60 : decode mX9_duel.2.1 60 = .ok (.ishr, 1) := by decide +kernel
theorem dX9_duel_61 : decode mX9_duel.2.1 61 = .ok (.iastore, 1) := by decide +kernel
theorem dX9_duel_62 : decode mX9_duel.2.1 62 = .ok (.aload_n 0, 1) := by decide +kernel
theorem dX9_duel_63 : decode mX9_duel.2.1 63 = .ok (.getfield 79, 3) := by decide +kernel
theorem dX9_duel_66 : decode mX9_duel.2.1 66 = .ok (.iconst 1, 1) := by decide +kernel
theorem dX9_duel_67 : decode mX9_duel.2.1 67 = .ok (.iload_n 3, 1) := by decide +kernel
theorem dX9_duel_68 : decode mX9_duel.2.1 68 = .ok (.iconst 1, 1) := by decide +kernel
theorem dX9_duel_69 : decode mX9_duel.2.1 69 = .ok (.iand, 1) := by decide +kernel
theorem dX9_duel_70 : decode mX9_duel.2.1 70 = .ok (.iastore, 1) := by decide +kernel
theorem dX9_duel_71 : decode mX9_duel.2.1 71 = .ok (.aload_n 0, 1) := by decide +kernel
theorem dX9_duel_72 : decode mX9_duel.2.1 72 = .ok (.iconst 2, 1) := by decide +kernel
theorem dX9_duel_73 : decode mX9_duel.2.1 73 = .ok (.putfield 82, 3) := by decide +kernel
theorem dX9_duel_76 : decode mX9_duel.2.1 76 = .ok (.iinc 2 1, 3) := by decide +kernel
theorem dX9_duel_79 : decode mX9_duel.2.1 79 = .ok (.iinc 3 1, 3) := by decide +kernel
theorem dX9_duel_82 : decode mX9_duel.2.1 82 = .ok (.goto (-63), 3) := by decide +kernel
theorem dX9_duel_85 : decode mX9_duel.2.1 85 = .ok (.iload_n 2, 1) := by decide +kernel
theorem dX9_duel_86 : decode mX9_duel.2.1 86 = .ok (.ireturn, 1) := by decide +kernel
theorem bX9_duel_0 {E : px_E} {d : Nat} {w : pw_W} {Q : Option Value → pw_W → Prop} {t : ct_T} (hw : w.1 = cs t) {x1 : Int32} (ht1 : is_Hamlet t.1) 
    (k1 : (pX9_isMeeting (pw_sI w 1 14 0) t x1) → px_W E mX9_duel (d + 2) 0 0 19 [.ref 1, .int x1, .int 0, .int 0] [] (pw_sI w 1 14 0) Q)
    (k2 : ¬ (pX9_isMeeting (pw_sI w 1 14 0) t x1) → Q (some (.int (-1))) (pw_sI w 1 14 0)) :
    px_W E mX9_duel (d + 2) 0 0 0 [.ref 1, .int x1, .null, .null] [] w Q := by
  refine px_aload_n dX9_duel_0 rfl rfl ?_
  refine px_iconst dX9_duel_1 ic_0 ?_
  refine px_putI dX9_duel_2 fl_9_82 (Or.inl rfl) rfl (px_sh1 hw sh_1) rfl rfl (by omega) ?_
  refine px_aload_n dX9_duel_5 rfl rfl ?_
  refine px_iload_n dX9_duel_6 rfl rfl ?_
  refine px_callV (As := [.int x1]) (st := []) (rc := 0) (rs := 0) (mc := 0) (ms := 0) dX9_duel_7 lk_9_130 (px_sh1 (hI hw) sh_1) rfl rfl (Nat.le_of_ble_eq_true rfl) (sX9_isMeeting (w := (pw_sI w 1 14 0)) (hI hw) ht1 ?_)
  show px_W E mX9_duel (d + 2) 0 0 10 [.ref 1, .int x1, .null, .null] [.int (jb (pX9_isMeeting (pw_sI w 1 14 0) t x1))] (pw_sI w 1 14 0) Q
  refine px_jb_ne (tgt := 15) dX9_duel_10 (by decide) (fun h1 => ?_) (fun h1 => ?_)
  ·
    refine px_iconst dX9_duel_15 ic_0 ?_
    refine px_istore_n (ls' := [.ref 1, .int x1, .int 0, .null]) dX9_duel_16 rfl ⟨by decide, rfl⟩ rfl ?_
    refine px_iconst dX9_duel_17 ic_0 ?_
    refine px_istore_n (ls' := [.ref 1, .int x1, .int 0, .int 0]) dX9_duel_18 rfl ⟨by decide, rfl⟩ rfl ?_
    exact (k1 h1)
  ·
    refine px_iconst dX9_duel_13 ic_m1 ?_
    exact px_ireturn dX9_duel_14 rfl rfl (k2 h1)
theorem eX9_duel {E : px_E} {d : Nat} {w : pw_W} {Q : Option Value → pw_W → Prop} {t : ct_T} (hw : w.1 = cs t) {x1 : Int32} (ht1 : is_Hamlet t.1) 
    (k1 : (pX9_isMeeting (pw_sI w 1 14 0) t x1) → px_W E mX9_duel (d + 2) 0 0 19 [.ref 1, .int x1, .int 0, .int 0] [] (pw_sI w 1 14 0) Q)
    (k2 : ¬ (pX9_isMeeting (pw_sI w 1 14 0) t x1) → Q (some (.int (-1))) (pw_sI w 1 14 0)) :
    px_Call E (d + 2) 0 0 mX9_duel [.ref 1, .int x1] w Q :=
  px_enter (k := 2) (by decide) (Nat.le_of_ble_eq_true rfl) rfl (px_forget (bX9_duel_0 hw ht1 k1 k2) ⟨Or.inr rfl, Or.inr rfl, Or.inl rfl, Or.inl rfl, trivial⟩)
theorem bX9_duel_19 {E : px_E} {d : Nat} {w : pw_W} {Q : Option Value → pw_W → Prop} {t : ct_T} (hw : w.1 = cs t) {x1 x2 x3 : Int32} (ht1 : is_Hamlet t.1) 
    (k1 : 4 ≤ x3 → Q (some (.int x2)) w)
    (k2 : ¬ 4 ≤ x3 → px_Call E (d + 1) 0 0 mX4_isRest [.ref 41, .ref t.1, .ref 35, .int x1, .int (js_shr x3 1), .int (x3 &&& 1)] w (fun v w' => px_W E mX9_duel (d + 2) 0 0 46 [.ref 1, .int x1, .int x2, .int x3] (v.toList ++ []) w' Q)) :
    px_W E mX9_duel (d + 2) 0 0 19 [.ref 1, .int x1, .int x2, .int x3] [] w Q := by
  refine px_iload_n dX9_duel_19 rfl rfl ?_
  refine px_iconst dX9_duel_20 ic_4 ?_
  refine px_icmp_ge (tgt := 85) dX9_duel_21 (by decide) (fun h1 => ?_) (fun h1 => ?_)
  ·
    refine px_iload_n dX9_duel_85 rfl rfl ?_
    exact px_ireturn dX9_duel_86 rfl rfl (k1 h1)
  ·
    refine px_aload_n dX9_duel_24 rfl rfl ?_
    refine px_getR (v := 41) dX9_duel_25 fr_9_61 rfl (px_sh1 hw sh_1) (px_rf hw rf_1_10) (by decide) ?_
    refine px_aload_n dX9_duel_28 rfl rfl ?_
    refine px_getR (v := t.1) dX9_duel_29 fr_9_20 rfl (px_sh1 hw sh_1) (px_rf hw rf_1_2) ht1.ne ?_
    refine px_aload_n dX9_duel_32 rfl rfl ?_
    refine px_getR (v := 35) dX9_duel_33 fr_9_40 rfl (px_sh1 hw sh_1) (px_rf hw rf_1_6) (by decide) ?_
    refine px_iload_n dX9_duel_36 rfl rfl ?_
    refine px_iload_n dX9_duel_37 rfl rfl ?_
    refine px_iconst dX9_duel_38 ic_1 ?_
    refine px_ishr dX9_duel_39 ?_
    refine px_iload_n dX9_duel_40 rfl rfl ?_
    refine px_iconst dX9_duel_41 ic_1 ?_
    refine px_iand dX9_duel_42 ?_
    exact px_callV (As := [.ref t.1, .ref 35, .int x1, .int (js_shr x3 1), .int (x3 &&& 1)]) (st := []) (rc := 0) (rs := 0) (mc := 0) (ms := 0) dX9_duel_43 lk_9_254 (px_sh1 hw sh_41) rfl rfl (Nat.le_of_ble_eq_true rfl) (k2 h1)
theorem bX9_duel_46 {E : px_E} {d : Nat} {w : pw_W} {Q : Option Value → pw_W → Prop} {t : ct_T} (hw : w.1 = cs t) {x1 x2 x3 y0 : Int32} (ht1 : is_Hamlet t.1) 
    (k1 : y0 = 0 → px_W E mX9_duel (d + 2) 0 0 79 [.ref 1, .int x1, .int x2, .int x3] [] w Q)
    (k2 : ¬ y0 = 0 → ¬ x2 = 0 → px_W E mX9_duel (d + 2) 0 0 76 [.ref 1, .int x1, .int x2, .int x3] [] w Q)
    (k3 : ¬ y0 = 0 → x2 = 0 → px_W E mX9_duel (d + 2) 0 0 53 [.ref 1, .int x1, .int x2, .int x3] [] w Q) :
    px_W E mX9_duel (d + 2) 0 0 46 [.ref 1, .int x1, .int x2, .int x3] [.int y0] w Q := by
  refine px_if_eq (tgt := 79) dX9_duel_46 (by decide) (fun h1 => ?_) (fun h1 => ?_)
  ·
    exact (k1 h1)
  ·
    refine px_iload_n dX9_duel_49 rfl rfl ?_
    refine px_if_ne (tgt := 76) dX9_duel_50 (by decide) (fun h2 => ?_) (fun h2 => ?_)
    ·
      exact (k2 h1 h2)
    ·
      exact (k3 h1 h2)
theorem bX9_duel_53 {E : px_E} {d : Nat} {w : pw_W} {Q : Option Value → pw_W → Prop} {t : ct_T} (hw : w.1 = cs t) {x1 x2 x3 : Int32} (ht1 : is_Hamlet t.1) 
    (k1 : px_W E mX9_duel (d + 2) 0 0 76 [.ref 1, .int x1, .int x2, .int x3] [] (pw_sI (pw_sI (pw_sI w 60 0 (js_shr x3 1)) 60 1 (x3 &&& 1)) 1 14 2) Q) :
    px_W E mX9_duel (d + 2) 0 0 53 [.ref 1, .int x1, .int x2, .int x3] [] w Q := by
  refine px_aload_n dX9_duel_53 rfl rfl ?_
  refine px_getR (v := 60) dX9_duel_54 fr_9_79 rfl (px_sh1 hw sh_1) (px_rf hw rf_1_13) (by decide) ?_
  refine px_iconst dX9_duel_57 ic_0 ?_
  refine px_iload_n dX9_duel_58 rfl rfl ?_
  refine px_iconst dX9_duel_59 ic_1 ?_
  refine px_ishr dX9_duel_60 ?_
  refine px_iast dX9_duel_61 (px_sh2 hw sh_60) (by decide) 0 rfl (by decide) (by omega) ?_
  refine px_aload_n dX9_duel_62 rfl rfl ?_
  refine px_getR (v := 60) dX9_duel_63 fr_9_79 rfl (px_sh1 (hI hw) sh_1) (px_rf (hI hw) rf_1_13) (by decide) ?_
  refine px_iconst dX9_duel_66 ic_1 ?_
  refine px_iload_n dX9_duel_67 rfl rfl ?_
  refine px_iconst dX9_duel_68 ic_1 ?_
  refine px_iand dX9_duel_69 ?_
  refine px_iast dX9_duel_70 (px_sh2 (hI hw) sh_60) (by decide) 1 rfl (by decide) (by omega) ?_
  refine px_aload_n dX9_duel_71 rfl rfl ?_
  refine px_iconst dX9_duel_72 ic_2 ?_
  refine px_putI dX9_duel_73 fl_9_82 (Or.inl rfl) rfl (px_sh1 (hI (hI hw)) sh_1) rfl rfl (by omega) ?_
  exact k1
theorem bX9_duel_76 {E : px_E} {d : Nat} {w : pw_W} {Q : Option Value → pw_W → Prop} {t : ct_T} (hw : w.1 = cs t) {x1 x2 x3 : Int32} (ht1 : is_Hamlet t.1) 
    (k1 : px_W E mX9_duel (d + 2) 0 0 79 [.ref 1, .int x1, .int (x2 + 1), .int x3] [] w Q) :
    px_W E mX9_duel (d + 2) 0 0 76 [.ref 1, .int x1, .int x2, .int x3] [] w Q := by
  refine px_iinc (ls' := [.ref 1, .int x1, .int (x2 + 1), .int x3]) dX9_duel_76 ⟨by decide, rfl⟩ rfl rfl rfl ?_
  exact k1
theorem bX9_duel_79 {E : px_E} {d : Nat} {w : pw_W} {Q : Option Value → pw_W → Prop} {t : ct_T} (hw : w.1 = cs t) {x1 x2 x3 : Int32} (ht1 : is_Hamlet t.1) 
    (k1 : px_W E mX9_duel (d + 2) 0 0 19 [.ref 1, .int x1, .int x2, .int (x3 + 1)] [] w Q) :
    px_W E mX9_duel (d + 2) 0 0 79 [.ref 1, .int x1, .int x2, .int x3] [] w Q := by
  refine px_iinc (ls' := [.ref 1, .int x1, .int x2, .int (x3 + 1)]) dX9_duel_79 ⟨by decide, rfl⟩ rfl rfl rfl ?_
  refine px_goto (tgt := 19) dX9_duel_82 (by decide) ?_
  exact k1
theorem dX9_scourge_0 : decode mX9_scourge.2.1 0 = .ok (.iload_n 1, 1) := by decide +kernel
theorem dX9_scourge_1 : decode mX9_scourge.2.1 1 = .ok (.invokestatic 157, 3) := by decide +kernel
theorem dX9_scourge_4 : decode mX9_scourge.2.1 4 = .ok (.ifCond .ne 5, 3) := by decide +kernel
theorem dX9_scourge_7 : decode mX9_scourge.2.1 7 = .ok (.iconst (-1), 1) := by decide +kernel
theorem dX9_scourge_8 : decode mX9_scourge.2.1 8 = .ok (.ireturn, 1) := by decide +kernel
theorem dX9_scourge_9 : decode mX9_scourge.2.1 9 = .ok (.aload_n 0, 1) := by decide +kernel
theorem dX9_scourge_10 : decode mX9_scourge.2.1 10 = .ok (.getfield 61, 3) := by decide +kernel
theorem dX9_scourge_13 : decode mX9_scourge.2.1 13 = .ok (.aload_n 0, 1) := by decide +kernel
theorem dX9_scourge_14 : decode mX9_scourge.2.1 14 = .ok (.getfield 20, 3) := by decide +kernel
theorem dX9_scourge_17 : decode mX9_scourge.2.1 17 = .ok (.aload_n 0, 1) := by decide +kernel
theorem dX9_scourge_18 : decode mX9_scourge.2.1 18 = .ok (.getfield 40, 3) := by decide +kernel
theorem dX9_scourge_21 : decode mX9_scourge.2.1 21 = .ok (.bipush 7, 2) := by decide +kernel
theorem dX9_scourge_23 : decode mX9_scourge.2.1 23 = .ok (.invokevirtual 258, 3) := by decide +kernel
theorem dX9_scourge_26 : decode mX9_scourge.2.1 26 = .ok (.aload_n 0, 1) := by decide +kernel
theorem dX9_scourge_27 : decode mX9_scourge.2.1 27 = .ok (.iload_n 1, 1) := by decide +kernel
theorem dX9_scourge_28 : decode mX9_scourge.2.1 28 = .ok (.invokevirtual 237, 3) := by decide +kernel
theorem dX9_scourge_31 : decode mX9_scourge.2.1 31 = .ok (.ireturn, 1) := by decide +kernel
theorem bX9_scourge_0 {E : px_E} {d : Nat} {w : pw_W} {Q : Option Value → pw_W → Prop} {t : ct_T} (hw : w.1 = cs t) {x1 : Int32} (ht1 : is_Hamlet t.1) 
    (k1 : (pX9_isZeroOrOne x1) → px_Call E (d + 1) 0 0 mX4_chooseScourge [.ref 41, .ref t.1, .ref 35, .int 7] w (fun v w' => px_W E mX9_scourge (d + 2) 0 0 26 [.ref 1, .int x1] (v.toList ++ []) w' Q))
    (k2 : ¬ (pX9_isZeroOrOne x1) → Q (some (.int (-1))) w) :
    px_W E mX9_scourge (d + 2) 0 0 0 [.ref 1, .int x1] [] w Q := by
  refine px_iload_n dX9_scourge_0 rfl rfl ?_
  refine px_callS (As := [.int x1]) (st := []) (rc := 0) (rs := 0) (mc := 0) (ms := 0) dX9_scourge_1 lk_9_157 rfl rfl (Nat.le_of_ble_eq_true rfl) (sX9_isZeroOrOne ?_)
  show px_W E mX9_scourge (d + 2) 0 0 4 [.ref 1, .int x1] [.int (jb (pX9_isZeroOrOne x1))] w Q
  refine px_jb_ne (tgt := 9) dX9_scourge_4 (by decide) (fun h1 => ?_) (fun h1 => ?_)
  ·
    refine px_aload_n dX9_scourge_9 rfl rfl ?_
    refine px_getR (v := 41) dX9_scourge_10 fr_9_61 rfl (px_sh1 hw sh_1) (px_rf hw rf_1_10) (by decide) ?_
    refine px_aload_n dX9_scourge_13 rfl rfl ?_
    refine px_getR (v := t.1) dX9_scourge_14 fr_9_20 rfl (px_sh1 hw sh_1) (px_rf hw rf_1_2) ht1.ne ?_
    refine px_aload_n dX9_scourge_17 rfl rfl ?_
    refine px_getR (v := 35) dX9_scourge_18 fr_9_40 rfl (px_sh1 hw sh_1) (px_rf hw rf_1_6) (by decide) ?_
    refine px_bipush dX9_scourge_21 bp_7 ?_
    exact px_callV (As := [.ref t.1, .ref 35, .int 7]) (st := []) (rc := 0) (rs := 0) (mc := 0) (ms := 0) dX9_scourge_23 lk_9_258 (px_sh1 hw sh_41) rfl rfl (Nat.le_of_ble_eq_true rfl) (k1 h1)
  ·
    refine px_iconst dX9_scourge_7 ic_m1 ?_
    exact px_ireturn dX9_scourge_8 rfl rfl (k2 h1)
theorem eX9_scourge {E : px_E} {d : Nat} {w : pw_W} {Q : Option Value → pw_W → Prop} {t : ct_T} (hw : w.1 = cs t) {x1 : Int32} (ht1 : is_Hamlet t.1) 
    (k1 : (pX9_isZeroOrOne x1) → px_Call E (d + 1) 0 0 mX4_chooseScourge [.ref 41, .ref t.1, .ref 35, .int 7] w (fun v w' => px_W E mX9_scourge (d + 2) 0 0 26 [.ref 1, .int x1] (v.toList ++ []) w' Q))
    (k2 : ¬ (pX9_isZeroOrOne x1) → Q (some (.int (-1))) w) :
    px_Call E (d + 2) 0 0 mX9_scourge [.ref 1, .int x1] w Q :=
  px_enter (k := 0) (by decide) (Nat.le_of_ble_eq_true rfl) rfl (px_forget (bX9_scourge_0 hw ht1 k1 k2) ⟨Or.inr rfl, Or.inr rfl, trivial⟩)
theorem bX9_scourge_26 {E : px_E} {d : Nat} {w : pw_W} {Q : Option Value → pw_W → Prop} {t : ct_T} (hw : w.1 = cs t) {x1 : Int32} (ht1 : is_Hamlet t.1) 
    (k1 : px_Call E (d + 1) 0 0 mX9_chosen [.ref 1, .int x1] w (fun v w' => px_W E mX9_scourge (d + 2) 0 0 31 [.null, .null] (v.toList ++ []) w' Q)) :
    px_W E mX9_scourge (d + 2) 0 0 26 [.ref 1, .int x1] [] w Q := by
  refine px_aload_n dX9_scourge_26 rfl rfl ?_
  refine px_iload_n dX9_scourge_27 rfl rfl ?_
  refine px_forget (ls' := [.null, .null]) ?_ ⟨Or.inl rfl, Or.inl rfl, trivial⟩
  exact px_callV (As := [.int x1]) (st := []) (rc := 0) (rs := 0) (mc := 0) (ms := 0) dX9_scourge_28 lk_9_237 (px_sh1 hw sh_1) rfl rfl (Nat.le_of_ble_eq_true rfl) k1
theorem bX9_scourge_31 {E : px_E} {d : Nat} {w : pw_W} {Q : Option Value → pw_W → Prop} {t : ct_T} (hw : w.1 = cs t) {y0 : Int32} (ht1 : is_Hamlet t.1) 
    (k1 : Q (some (.int y0)) w) :
    px_W E mX9_scourge (d + 2) 0 0 31 [.null, .null] [.int y0] w Q := by
  exact px_ireturn dX9_scourge_31 rfl rfl k1
theorem dX9_relief_0 : decode mX9_relief.2.1 0 = .ok (.aload_n 0, 1) := by decide +kernel
theorem dX9_relief_1 : decode mX9_relief.2.1 1 = .ok (.iload_n 1, 1) := by decide +kernel
theorem dX9_relief_2 : decode mX9_relief.2.1 2 = .ok (.invokevirtual 145, 3) := by decide +kernel
theorem dX9_relief_5 : decode mX9_relief.2.1 5 = .ok (.ifCond .eq 10, 3) := by decide +kernel
theorem dX9_relief_8 : decode mX9_relief.2.1 8 = .ok (.iload_n 2, 1) := by decide +kernel
theorem dX9_relief_9 : decode mX9_relief.2.1 9 = .ok (.invokestatic 157, 3) := by decide +kernel
theorem dX9_relief_12 : decode mX9_relief.2.1 12 = .ok (.ifCond .ne 5, 3) := by decide +kernel
theorem dX9_relief_15 : decode mX9_relief.2.1 15 = .ok (.iconst (-1), 1) := by decide +kernel
theorem dX9_relief_16 : decode mX9_relief.2.1 16 = .ok (.ireturn, 1) := by decide +kernel
theorem dX9_relief_17 : decode mX9_relief.2.1 17 = .ok (.aload_n 0, 1) := by decide +kernel
theorem dX9_relief_18 : decode mX9_relief.2.1 18 = .ok (.getfield 61, 3) := by decide +kernel
theorem dX9_relief_21 : decode mX9_relief.2.1 21 = .ok (.aload_n 0, 1) := by decide +kernel
theorem dX9_relief_22 : decode mX9_relief.2.1 22 = .ok (.getfield 20, 3) := by decide +kernel
theorem dX9_relief_25 : decode mX9_relief.2.1 25 = .ok (.aload_n 0, 1) := by decide +kernel
theorem dX9_relief_26 : decode mX9_relief.2.1 26 = .ok (.getfield 40, 3) := by decide +kernel
theorem dX9_relief_29 : decode mX9_relief.2.1 29 = .ok (.iload_n 1, 1) := by decide +kernel
theorem dX9_relief_30 : decode mX9_relief.2.1 30 = .ok (.bipush 7, 2) := by decide +kernel
theorem dX9_relief_32 : decode mX9_relief.2.1 32 = .ok (.invokevirtual 261, 3) := by decide +kernel
theorem dX9_relief_35 : decode mX9_relief.2.1 35 = .ok (.aload_n 0, 1) := by decide +kernel
theorem dX9_relief_36 : decode mX9_relief.2.1 36 = .ok (.iload_n 2, 1) := by decide +kernel
theorem dX9_relief_37 : decode mX9_relief.2.1 37 = .ok (.invokevirtual 237, 3) := by decide +kernel
theorem dX9_relief_40 : decode mX9_relief.2.1 40 = .ok (.ireturn, 1) := by decide +kernel
theorem bX9_relief_0 {E : px_E} {d : Nat} {w : pw_W} {Q : Option Value → pw_W → Prop} {t : ct_T} (hw : w.1 = cs t) {x1 x2 : Int32} (ht1 : is_Hamlet t.1) 
    (k1 : ¬ (pX9_isBrother w t x1) → px_W E mX9_relief (d + 2) 0 0 15 [.null, .null, .null] [] w Q)
    (k2 : (pX9_isBrother w t x1) → (pX9_isZeroOrOne x2) → px_Call E (d + 1) 0 0 mX4_chooseRelief [.ref 41, .ref t.1, .ref 35, .int x1, .int 7] w (fun v w' => px_W E mX9_relief (d + 2) 0 0 35 [.ref 1, .null, .int x2] (v.toList ++ []) w' Q))
    (k3 : (pX9_isBrother w t x1) → ¬ (pX9_isZeroOrOne x2) → px_W E mX9_relief (d + 2) 0 0 15 [.null, .null, .null] [] w Q) :
    px_W E mX9_relief (d + 2) 0 0 0 [.ref 1, .int x1, .int x2] [] w Q := by
  refine px_aload_n dX9_relief_0 rfl rfl ?_
  refine px_iload_n dX9_relief_1 rfl rfl ?_
  refine px_callV (As := [.int x1]) (st := []) (rc := 0) (rs := 0) (mc := 0) (ms := 0) dX9_relief_2 lk_9_145 (px_sh1 hw sh_1) rfl rfl (Nat.le_of_ble_eq_true rfl) (sX9_isBrother (w := w) hw ht1 ?_)
  show px_W E mX9_relief (d + 2) 0 0 5 [.ref 1, .int x1, .int x2] [.int (jb (pX9_isBrother w t x1))] w Q
  refine px_jb_eq (tgt := 15) dX9_relief_5 (by decide) (fun h1 => ?_) (fun h1 => ?_)
  ·
    exact px_forget (k1 h1) ⟨Or.inl rfl, Or.inl rfl, Or.inl rfl, trivial⟩
  ·
    refine px_iload_n dX9_relief_8 rfl rfl ?_
    refine px_callS (As := [.int x2]) (st := []) (rc := 0) (rs := 0) (mc := 0) (ms := 0) dX9_relief_9 lk_9_157 rfl rfl (Nat.le_of_ble_eq_true rfl) (sX9_isZeroOrOne ?_)
    show px_W E mX9_relief (d + 2) 0 0 12 [.ref 1, .int x1, .int x2] [.int (jb (pX9_isZeroOrOne x2))] w Q
    refine px_jb_ne (tgt := 17) dX9_relief_12 (by decide) (fun h2 => ?_) (fun h2 => ?_)
    ·
      refine px_aload_n dX9_relief_17 rfl rfl ?_
      refine px_getR (v := 41) dX9_relief_18 fr_9_61 rfl (px_sh1 hw sh_1) (px_rf hw rf_1_10) (by decide) ?_
      refine px_aload_n dX9_relief_21 rfl rfl ?_
      refine px_getR (v := t.1) dX9_relief_22 fr_9_20 rfl (px_sh1 hw sh_1) (px_rf hw rf_1_2) ht1.ne ?_
      refine px_aload_n dX9_relief_25 rfl rfl ?_
      refine px_getR (v := 35) dX9_relief_26 fr_9_40 rfl (px_sh1 hw sh_1) (px_rf hw rf_1_6) (by decide) ?_
      refine px_iload_n dX9_relief_29 rfl rfl ?_
      refine px_bipush dX9_relief_30 bp_7 ?_
      refine px_forget (ls' := [.ref 1, .null, .int x2]) ?_ ⟨Or.inr rfl, Or.inl rfl, Or.inr rfl, trivial⟩
      exact px_callV (As := [.ref t.1, .ref 35, .int x1, .int 7]) (st := []) (rc := 0) (rs := 0) (mc := 0) (ms := 0) dX9_relief_32 lk_9_261 (px_sh1 hw sh_41) rfl rfl (Nat.le_of_ble_eq_true rfl) (k2 h1 h2)
    ·
      exact px_forget (k3 h1 h2) ⟨Or.inl rfl, Or.inl rfl, Or.inl rfl, trivial⟩
theorem eX9_relief {E : px_E} {d : Nat} {w : pw_W} {Q : Option Value → pw_W → Prop} {t : ct_T} (hw : w.1 = cs t) {x1 x2 : Int32} (ht1 : is_Hamlet t.1) 
    (k1 : ¬ (pX9_isBrother w t x1) → px_W E mX9_relief (d + 2) 0 0 15 [.null, .null, .null] [] w Q)
    (k2 : (pX9_isBrother w t x1) → (pX9_isZeroOrOne x2) → px_Call E (d + 1) 0 0 mX4_chooseRelief [.ref 41, .ref t.1, .ref 35, .int x1, .int 7] w (fun v w' => px_W E mX9_relief (d + 2) 0 0 35 [.ref 1, .null, .int x2] (v.toList ++ []) w' Q))
    (k3 : (pX9_isBrother w t x1) → ¬ (pX9_isZeroOrOne x2) → px_W E mX9_relief (d + 2) 0 0 15 [.null, .null, .null] [] w Q) :
    px_Call E (d + 2) 0 0 mX9_relief [.ref 1, .int x1, .int x2] w Q :=
  px_enter (k := 0) (by decide) (Nat.le_of_ble_eq_true rfl) rfl (px_forget (bX9_relief_0 hw ht1 k1 k2 k3) ⟨Or.inr rfl, Or.inr rfl, Or.inr rfl, trivial⟩)
theorem bX9_relief_15 {E : px_E} {d : Nat} {w : pw_W} {Q : Option Value → pw_W → Prop} {t : ct_T} (hw : w.1 = cs t) (ht1 : is_Hamlet t.1) 
    (k1 : Q (some (.int (-1))) w) :
    px_W E mX9_relief (d + 2) 0 0 15 [.null, .null, .null] [] w Q := by
  refine px_iconst dX9_relief_15 ic_m1 ?_
  exact px_ireturn dX9_relief_16 rfl rfl k1
theorem bX9_relief_35 {E : px_E} {d : Nat} {w : pw_W} {Q : Option Value → pw_W → Prop} {t : ct_T} (hw : w.1 = cs t) {x2 : Int32} (ht1 : is_Hamlet t.1) 
    (k1 : px_Call E (d + 1) 0 0 mX9_chosen [.ref 1, .int x2] w (fun v w' => px_W E mX9_relief (d + 2) 0 0 40 [.null, .null, .null] (v.toList ++ []) w' Q)) :
    px_W E mX9_relief (d + 2) 0 0 35 [.ref 1, .null, .int x2] [] w Q := by
  refine px_aload_n dX9_relief_35 rfl rfl ?_
  refine px_iload_n dX9_relief_36 rfl rfl ?_
  refine px_forget (ls' := [.null, .null, .null]) ?_ ⟨Or.inl rfl, Or.inl rfl, Or.inl rfl, trivial⟩
  exact px_callV (As := [.int x2]) (st := []) (rc := 0) (rs := 0) (mc := 0) (ms := 0) dX9_relief_37 lk_9_237 (px_sh1 hw sh_1) rfl rfl (Nat.le_of_ble_eq_true rfl) k1
theorem bX9_relief_40 {E : px_E} {d : Nat} {w : pw_W} {Q : Option Value → pw_W → Prop} {t : ct_T} (hw : w.1 = cs t) {y0 : Int32} (ht1 : is_Hamlet t.1) 
    (k1 : Q (some (.int y0)) w) :
    px_W E mX9_relief (d + 2) 0 0 40 [.null, .null, .null] [.int y0] w Q := by
  exact px_ireturn dX9_relief_40 rfl rfl k1
theorem dX9_sorest_0 : decode mX9_sorest.2.1 0 = .ok (.aload_n 0, 1) := by decide +kernel
theorem dX9_sorest_1 : decode mX9_sorest.2.1 1 = .ok (.aload_n 0, 1) := by decide +kernel
theorem dX9_sorest_2 : decode mX9_sorest.2.1 2 = .ok (.getfield 40, 3) := by decide +kernel
theorem dX9_sorest_5 : decode mX9_sorest.2.1 5 = .ok (.getfield 123, 3) := by decide +kernel
theorem dX9_sorest_8 : decode mX9_sorest.2.1 8 = .ok (.invokevirtual 265, 3) := by decide +kernel
theorem dX9_sorest_11 : decode mX9_sorest.2.1 11 = .ok (.ireturn, 1) := by decide +kernel
theorem bX9_sorest_0 {E : px_E} {d : Nat} {w : pw_W} {Q : Option Value → pw_W → Prop} {t : ct_T} (hw : w.1 = cs t)  
    (k1 : px_Call E d 0 0 mX9_firstGreatest [.ref 1, .ref 36] w (fun v w' => px_W E mX9_sorest (d + 1) 0 0 11 [.null] (v.toList ++ []) w' Q)) :
    px_W E mX9_sorest (d + 1) 0 0 0 [.ref 1] [] w Q := by
  refine px_aload_n dX9_sorest_0 rfl rfl ?_
  refine px_aload_n dX9_sorest_1 rfl rfl ?_
  refine px_getR (v := 35) dX9_sorest_2 fr_9_40 rfl (px_sh1 hw sh_1) (px_rf hw rf_1_6) (by decide) ?_
  refine px_getR (v := 36) dX9_sorest_5 fr_9_123 rfl (px_sh1 hw sh_35) (px_rf hw rf_35_0) (by decide) ?_
  refine px_forget (ls' := [.null]) ?_ ⟨Or.inl rfl, trivial⟩
  exact px_callV (As := [.ref 36]) (st := []) (rc := 0) (rs := 0) (mc := 0) (ms := 0) dX9_sorest_8 lk_9_265 (px_sh1 hw sh_1) rfl rfl (Nat.le_of_ble_eq_true rfl) k1
theorem eX9_sorest {E : px_E} {d : Nat} {w : pw_W} {Q : Option Value → pw_W → Prop} {t : ct_T} (hw : w.1 = cs t)  
    (k1 : px_Call E d 0 0 mX9_firstGreatest [.ref 1, .ref 36] w (fun v w' => px_W E mX9_sorest (d + 1) 0 0 11 [.null] (v.toList ++ []) w' Q)) :
    px_Call E (d + 1) 0 0 mX9_sorest [.ref 1] w Q :=
  px_enter (k := 0) (by decide) (Nat.le_of_ble_eq_true rfl) rfl (px_forget (bX9_sorest_0 hw k1) ⟨Or.inr rfl, trivial⟩)
theorem bX9_sorest_11 {E : px_E} {d : Nat} {w : pw_W} {Q : Option Value → pw_W → Prop} {t : ct_T} (hw : w.1 = cs t) {y0 : Int32}  
    (k1 : Q (some (.int y0)) w) :
    px_W E mX9_sorest (d + 1) 0 0 11 [.null] [.int y0] w Q := by
  exact px_ireturn dX9_sorest_11 rfl rfl k1
theorem dX9_firmest_0 : decode mX9_firmest.2.1 0 = .ok (.aload_n 0, 1) := by decide +kernel
theorem dX9_firmest_1 : decode mX9_firmest.2.1 1 = .ok (.aload_n 0, 1) := by decide +kernel
theorem dX9_firmest_2 : decode mX9_firmest.2.1 2 = .ok (.getfield 40, 3) := by decide +kernel
theorem dX9_firmest_5 : decode mX9_firmest.2.1 5 = .ok (.getfield 117, 3) := by decide +kernel
theorem dX9_firmest_8 : decode mX9_firmest.2.1 8 = .ok (.invokevirtual 265, 3) := by decide +kernel
theorem dX9_firmest_11 : decode mX9_firmest.2.1 11 = .ok (.ireturn, 1) := by decide +kernel
theorem bX9_firmest_0 {E : px_E} {d : Nat} {w : pw_W} {Q : Option Value → pw_W → Prop} {t : ct_T} (hw : w.1 = cs t)  
    (k1 : px_Call E d 0 0 mX9_firstGreatest [.ref 1, .ref 37] w (fun v w' => px_W E mX9_firmest (d + 1) 0 0 11 [.null] (v.toList ++ []) w' Q)) :
    px_W E mX9_firmest (d + 1) 0 0 0 [.ref 1] [] w Q := by
  refine px_aload_n dX9_firmest_0 rfl rfl ?_
  refine px_aload_n dX9_firmest_1 rfl rfl ?_
  refine px_getR (v := 35) dX9_firmest_2 fr_9_40 rfl (px_sh1 hw sh_1) (px_rf hw rf_1_6) (by decide) ?_
  refine px_getR (v := 37) dX9_firmest_5 fr_9_117 rfl (px_sh1 hw sh_35) (px_rf hw rf_35_1) (by decide) ?_
  refine px_forget (ls' := [.null]) ?_ ⟨Or.inl rfl, trivial⟩
  exact px_callV (As := [.ref 37]) (st := []) (rc := 0) (rs := 0) (mc := 0) (ms := 0) dX9_firmest_8 lk_9_265 (px_sh1 hw sh_1) rfl rfl (Nat.le_of_ble_eq_true rfl) k1
theorem eX9_firmest {E : px_E} {d : Nat} {w : pw_W} {Q : Option Value → pw_W → Prop} {t : ct_T} (hw : w.1 = cs t)  
    (k1 : px_Call E d 0 0 mX9_firstGreatest [.ref 1, .ref 37] w (fun v w' => px_W E mX9_firmest (d + 1) 0 0 11 [.null] (v.toList ++ []) w' Q)) :
    px_Call E (d + 1) 0 0 mX9_firmest [.ref 1] w Q :=
  px_enter (k := 0) (by decide) (Nat.le_of_ble_eq_true rfl) rfl (px_forget (bX9_firmest_0 hw k1) ⟨Or.inr rfl, trivial⟩)
theorem bX9_firmest_11 {E : px_E} {d : Nat} {w : pw_W} {Q : Option Value → pw_W → Prop} {t : ct_T} (hw : w.1 = cs t) {y0 : Int32}  
    (k1 : Q (some (.int y0)) w) :
    px_W E mX9_firmest (d + 1) 0 0 11 [.null] [.int y0] w Q := by
  exact px_ireturn dX9_firmest_11 rfl rfl k1
theorem dX9_due_0 : decode mX9_due.2.1 0 = .ok (.iconst 0, 1) := by decide +kernel
theorem dX9_due_1 : decode mX9_due.2.1 1 = .ok (.istore_n 1, 1) := by decide +kernel
theorem dX9_due_2 : decode mX9_due.2.1 2 = .ok (.iconst 0, 1) := by decide +kernel
theorem dX9_due_3 : decode mX9_due.2.1 3 = .ok (.istore_n 2, 1) := by decide +kernel
theorem dX9_due_4 : decode mX9_due.2.1 4 = .ok (.iload_n 2, 1) := by decide +kernel
theorem dX9_due_5 : decode mX9_due.2.1 5 = .ok (.aload_n 0, 1) := by decide +kernel
theorem dX9_due_6 : decode mX9_due.2.1 6 = .ok (.getfield 20, 3) := by decide +kernel
theorem dX9_due_9 : decode mX9_due.2.1 9 = .ok (.getfield 269, 3) := by decide +kernel
theorem dX9_due_12 : decode mX9_due.2.1 12 = .ok (.if_icmp .ge 30, 3) := by decide +kernel
theorem dX9_due_15 : decode mX9_due.2.1 15 = .ok (.aload_n 0, 1) := by decide +kernel
theorem dX9_due_16 : decode mX9_due.2.1 16 = .ok (.getfield 20, 3) := by decide +kernel
theorem dX9_due_19 : decode mX9_due.2.1 19 = .ok (.aload_n 0, 1) := by decide +kernel
theorem dX9_due_20 : decode mX9_due.2.1 20 = .ok (.getfield 40, 3) := by decide +kernel
theorem dX9_due_23 : decode mX9_due.2.1 23 = .ok (.iload_n 2, 1) := by decide +kernel
theorem dX9_due_24 : decode mX9_due.2.1 24 = .ok (.invokevirtual 272, 3) := by decide +kernel
theorem dX9_due_27 : decode mX9_due.2.1 27 = .ok (.ifCond .eq 9, 3) := by decide +kernel
theorem dX9_due_30 : decode mX9_due.2.1 30 = .ok (.iload_n 1, 1) := by decide +kernel
theorem dX9_due_31 : decode mX9_due.2.1 31 = .ok (.iconst 1, 1) := by decide +kernel
theorem dX9_due_32 : decode mX9_due.2.1 32 = .ok (.iload_n 2, 1) := by decide +kernel
theorem dX9_due_33 : decode mX9_due.2.1 33 = .ok (.ishl, 1) := by decide +kernel
theorem dX9_due_34 : decode mX9_due.2.1 34 = .ok (.ior, 1) := by decide +kernel
theorem dX9_due_35 : decode mX9_due.2.1 35 = .ok (.istore_n 1, 1) := by decide +kernel
theorem dX9_due_36 : decode mX9_due.2.1 36 = .ok (.iinc 2 1, 3) := by decide +kernel
theorem dX9_due_39 : decode mX9_due.2.1 39 = .ok (.goto (-35), 3) := by decide +kernel
theorem dX9_due_42 : decode mX9_due.2.1 42 = .ok (.iload_n 1, 1) := by decide +kernel
theorem dX9_due_43 : decode mX9_due.2.1 43 = .ok (.ireturn, 1) := by decide +kernel
theorem bX9_due_0 {E : px_E} {d : Nat} {w : pw_W} {Q : Option Value → pw_W → Prop} {t : ct_T} (hw : w.1 = cs t) (ht1 : is_Hamlet t.1) 
    (k1 : px_W E mX9_due (d + 1) 0 0 4 [.ref 1, .int 0, .int 0] [] w Q) :
    px_W E mX9_due (d + 1) 0 0 0 [.ref 1, .null, .null] [] w Q := by
  refine px_iconst dX9_due_0 ic_0 ?_
  refine px_istore_n (ls' := [.ref 1, .int 0, .null]) dX9_due_1 rfl ⟨by decide, rfl⟩ rfl ?_
  refine px_iconst dX9_due_2 ic_0 ?_
  refine px_istore_n (ls' := [.ref 1, .int 0, .int 0]) dX9_due_3 rfl ⟨by decide, rfl⟩ rfl ?_
  exact k1
theorem eX9_due {E : px_E} {d : Nat} {w : pw_W} {Q : Option Value → pw_W → Prop} {t : ct_T} (hw : w.1 = cs t) (ht1 : is_Hamlet t.1) 
    (k1 : px_W E mX9_due (d + 1) 0 0 4 [.ref 1, .int 0, .int 0] [] w Q) :
    px_Call E (d + 1) 0 0 mX9_due [.ref 1] w Q :=
  px_enter (k := 2) (by decide) (Nat.le_of_ble_eq_true rfl) rfl (px_forget (bX9_due_0 hw ht1 k1) ⟨Or.inr rfl, Or.inl rfl, Or.inl rfl, trivial⟩)
theorem bX9_due_4 {E : px_E} {d : Nat} {w : pw_W} {Q : Option Value → pw_W → Prop} {t : ct_T} (hw : w.1 = cs t) {x1 x2 : Int32} (ht1 : is_Hamlet t.1) 
    (k1 : (pw_I w t.1 4) ≤ x2 → Q (some (.int x1)) w)
    (k2 : ¬ (pw_I w t.1 4) ≤ x2 → px_Call E d 0 0 mX2_takesPlace [.ref t.1, .ref 35, .int x2] w (fun v w' => px_W E mX9_due (d + 1) 0 0 27 [.ref 1, .int x1, .int x2] (v.toList ++ []) w' Q)) :
    px_W E mX9_due (d + 1) 0 0 4 [.ref 1, .int x1, .int x2] [] w Q := by
  refine px_iload_n dX9_due_4 rfl rfl ?_
  refine px_aload_n dX9_due_5 rfl rfl ?_
  refine px_getR (v := t.1) dX9_due_6 fr_9_20 rfl (px_sh1 hw sh_1) (px_rf hw rf_1_2) ht1.ne ?_
  refine px_getI dX9_due_9 fr_9_269 rfl (px_sh1 hw ht1.sh) ?_
  refine px_icmp_ge (tgt := 42) dX9_due_12 (by decide) (fun h1 => ?_) (fun h1 => ?_)
  ·
    refine px_iload_n dX9_due_42 rfl rfl ?_
    exact px_ireturn dX9_due_43 rfl rfl (k1 h1)
  ·
    refine px_aload_n dX9_due_15 rfl rfl ?_
    refine px_getR (v := t.1) dX9_due_16 fr_9_20 rfl (px_sh1 hw sh_1) (px_rf hw rf_1_2) ht1.ne ?_
    refine px_aload_n dX9_due_19 rfl rfl ?_
    refine px_getR (v := 35) dX9_due_20 fr_9_40 rfl (px_sh1 hw sh_1) (px_rf hw rf_1_6) (by decide) ?_
    refine px_iload_n dX9_due_23 rfl rfl ?_
    exact px_callV (As := [.ref 35, .int x2]) (st := []) (rc := 0) (rs := 0) (mc := 0) (ms := 0) dX9_due_24 lk_9_272 (px_sh1 hw ht1.sh) rfl rfl (Nat.le_of_ble_eq_true rfl) (k2 h1)
theorem bX9_due_27 {E : px_E} {d : Nat} {w : pw_W} {Q : Option Value → pw_W → Prop} {t : ct_T} (hw : w.1 = cs t) {x1 x2 y0 : Int32} (ht1 : is_Hamlet t.1) 
    (k1 : y0 = 0 → px_W E mX9_due (d + 1) 0 0 36 [.ref 1, .int x1, .int x2] [] w Q)
    (k2 : ¬ y0 = 0 → px_W E mX9_due (d + 1) 0 0 36 [.ref 1, .int (x1 ||| (js_shl 1 x2)), .int x2] [] w Q) :
    px_W E mX9_due (d + 1) 0 0 27 [.ref 1, .int x1, .int x2] [.int y0] w Q := by
  refine px_if_eq (tgt := 36) dX9_due_27 (by decide) (fun h1 => ?_) (fun h1 => ?_)
  ·
    exact (k1 h1)
  ·
    refine px_iload_n dX9_due_30 rfl rfl ?_
    refine px_iconst dX9_due_31 ic_1 ?_
    refine px_iload_n dX9_due_32 rfl rfl ?_
    refine px_ishl dX9_due_33 ?_
    refine px_ior dX9_due_34 ?_
    refine px_istore_n (ls' := [.ref 1, .int (x1 ||| (js_shl 1 x2)), .int x2]) dX9_due_35 rfl ⟨by decide, rfl⟩ rfl ?_
    exact (k2 h1)
theorem bX9_due_36 {E : px_E} {d : Nat} {w : pw_W} {Q : Option Value → pw_W → Prop} {t : ct_T} (hw : w.1 = cs t) {x1 x2 : Int32} (ht1 : is_Hamlet t.1) 
    (k1 : px_W E mX9_due (d + 1) 0 0 4 [.ref 1, .int x1, .int (x2 + 1)] [] w Q) :
    px_W E mX9_due (d + 1) 0 0 36 [.ref 1, .int x1, .int x2] [] w Q := by
  refine px_iinc (ls' := [.ref 1, .int x1, .int (x2 + 1)]) dX9_due_36 ⟨by decide, rfl⟩ rfl rfl rfl ?_
  refine px_goto (tgt := 4) dX9_due_39 (by decide) ?_
  exact k1
theorem dX9_friends_0 : decode mX9_friends.2.1 0 = .ok (.aload_n 0, 1) := by decide +kernel
theorem dX9_friends_1 : decode mX9_friends.2.1 1 = .ok (.iload_n 1, 1) := by decide +kernel
theorem dX9_friends_2 : decode mX9_friends.2.1 2 = .ok (.invokevirtual 113, 3) := by decide +kernel
theorem dX9_friends_5 : decode mX9_friends.2.1 5 = .ok (.ifCond .eq 25, 3) := by decide +kernel
theorem dX9_friends_8 : decode mX9_friends.2.1 8 = .ok (.aload_n 0, 1) := by decide +kernel
theorem dX9_friends_9 : decode mX9_friends.2.1 9 = .ok (.getfield 68, 3) := by decide +kernel
theorem dX9_friends_12 : decode mX9_friends.2.1 12 = .ok (.aload_n 0, 1) := by decide +kernel
theorem dX9_friends_13 : decode mX9_friends.2.1 13 = .ok (.getfield 20, 3) := by decide +kernel
theorem dX9_friends_16 : decode mX9_friends.2.1 16 = .ok (.aload_n 0, 1) := by decide +kernel
theorem dX9_friends_17 : decode mX9_friends.2.1 17 = .ok (.getfield 40, 3) := by decide +kernel
theorem dX9_friends_20 : decode mX9_friends.2.1 20 = .ok (.getfield 240, 3) := by decide +kernel
theorem dX9_friends_23 : decode mX9_friends.2.1 23 = .ok (.iload_n 1, 1) := by decide +kernel
theorem dX9_friends_24 : decode mX9_friends.2.1 24 = .ok (.invokevirtual 275, 3) := by decide +kernel
theorem dX9_friends_27 : decode mX9_friends.2.1 27 = .ok (.goto 4, 3) := by decide +kernel
theorem dX9_friends_30 : decode mX9_friends.2.1 30 = .ok (.iconst (-1), 1) := by decide +kernel
theorem dX9_friends_31 : decode mX9_friends.2.1 31 = .ok (.ireturn, 1) := by decide +kernel
theorem bX9_friends_0 {E : px_E} {d : Nat} {w : pw_W} {Q : Option Value → pw_W → Prop} {t : ct_T} (hw : w.1 = cs t) {x1 : Int32} (ht1 : is_Hamlet t.1) 
    (k1 : ¬ (pX9_isPerson w t x1) → px_W E mX9_friends (d + 2) 0 0 31 [.null, .null] [.int (-1)] w Q)
    (k2 : (pX9_isPerson w t x1) → px_Call E (d + 1) 0 0 mX0_companyOf [.ref 46, .ref t.1, .int (pw_I w 35 2), .int x1] w (fun v w' => px_W E mX9_friends (d + 2) 0 0 27 [.null, .null] (v.toList ++ []) w' Q)) :
    px_W E mX9_friends (d + 2) 0 0 0 [.ref 1, .int x1] [] w Q := by
  refine px_aload_n dX9_friends_0 rfl rfl ?_
  refine px_iload_n dX9_friends_1 rfl rfl ?_
  refine px_callV (As := [.int x1]) (st := []) (rc := 0) (rs := 0) (mc := 0) (ms := 0) dX9_friends_2 lk_9_113 (px_sh1 hw sh_1) rfl rfl (Nat.le_of_ble_eq_true rfl) (sX9_isPerson (w := w) hw ht1 ?_)
  show px_W E mX9_friends (d + 2) 0 0 5 [.ref 1, .int x1] [.int (jb (pX9_isPerson w t x1))] w Q
  refine px_jb_eq (tgt := 30) dX9_friends_5 (by decide) (fun h1 => ?_) (fun h1 => ?_)
  ·
    refine px_iconst dX9_friends_30 ic_m1 ?_
    exact px_forget (k1 h1) ⟨Or.inl rfl, Or.inl rfl, trivial⟩
  ·
    refine px_aload_n dX9_friends_8 rfl rfl ?_
    refine px_getR (v := 46) dX9_friends_9 fr_9_68 rfl (px_sh1 hw sh_1) (px_rf hw rf_1_11) (by decide) ?_
    refine px_aload_n dX9_friends_12 rfl rfl ?_
    refine px_getR (v := t.1) dX9_friends_13 fr_9_20 rfl (px_sh1 hw sh_1) (px_rf hw rf_1_2) ht1.ne ?_
    refine px_aload_n dX9_friends_16 rfl rfl ?_
    refine px_getR (v := 35) dX9_friends_17 fr_9_40 rfl (px_sh1 hw sh_1) (px_rf hw rf_1_6) (by decide) ?_
    refine px_getI dX9_friends_20 fr_9_240 rfl (px_sh1 hw sh_35) ?_
    refine px_iload_n dX9_friends_23 rfl rfl ?_
    refine px_forget (ls' := [.null, .null]) ?_ ⟨Or.inl rfl, Or.inl rfl, trivial⟩
    exact px_callV (As := [.ref t.1, .int (pw_I w 35 2), .int x1]) (st := []) (rc := 0) (rs := 0) (mc := 0) (ms := 0) dX9_friends_24 lk_9_275 (px_sh1 hw sh_46) rfl rfl (Nat.le_of_ble_eq_true rfl) (k2 h1)
theorem eX9_friends {E : px_E} {d : Nat} {w : pw_W} {Q : Option Value → pw_W → Prop} {t : ct_T} (hw : w.1 = cs t) {x1 : Int32} (ht1 : is_Hamlet t.1) 
    (k1 : ¬ (pX9_isPerson w t x1) → px_W E mX9_friends (d + 2) 0 0 31 [.null, .null] [.int (-1)] w Q)
    (k2 : (pX9_isPerson w t x1) → px_Call E (d + 1) 0 0 mX0_companyOf [.ref 46, .ref t.1, .int (pw_I w 35 2), .int x1] w (fun v w' => px_W E mX9_friends (d + 2) 0 0 27 [.null, .null] (v.toList ++ []) w' Q)) :
    px_Call E (d + 2) 0 0 mX9_friends [.ref 1, .int x1] w Q :=
  px_enter (k := 0) (by decide) (Nat.le_of_ble_eq_true rfl) rfl (px_forget (bX9_friends_0 hw ht1 k1 k2) ⟨Or.inr rfl, Or.inr rfl, trivial⟩)
theorem bX9_friends_27 {E : px_E} {d : Nat} {w : pw_W} {Q : Option Value → pw_W → Prop} {t : ct_T} (hw : w.1 = cs t) {y0 : Int32} (ht1 : is_Hamlet t.1) 
    (k1 : px_W E mX9_friends (d + 2) 0 0 31 [.null, .null] [.int y0] w Q) :
    px_W E mX9_friends (d + 2) 0 0 27 [.null, .null] [.int y0] w Q := by
  refine px_goto (tgt := 31) dX9_friends_27 (by decide) ?_
  exact k1
theorem bX9_friends_31 {E : px_E} {d : Nat} {w : pw_W} {Q : Option Value → pw_W → Prop} {t : ct_T} (hw : w.1 = cs t) {y0 : Int32} (ht1 : is_Hamlet t.1) 
    (k1 : Q (some (.int y0)) w) :
    px_W E mX9_friends (d + 2) 0 0 31 [.null, .null] [.int y0] w Q := by
  exact px_ireturn dX9_friends_31 rfl rfl k1
theorem dX9_uncared_0 : decode mX9_uncared.2.1 0 = .ok (.aload_n 0, 1) := by decide +kernel
theorem dX9_uncared_1 : decode mX9_uncared.2.1 1 = .ok (.getfield 20, 3) := by decide +kernel
theorem dX9_uncared_4 : decode mX9_uncared.2.1 4 = .ok (.invokevirtual 279, 3) := by decide +kernel
theorem dX9_uncared_7 : decode mX9_uncared.2.1 7 = .ok (.istore_n 1, 1) := by decide +kernel
theorem dX9_uncared_8 : decode mX9_uncared.2.1 8 = .ok (.iconst 0, 1) := by decide +kernel
theorem dX9_uncared_9 : decode mX9_uncared.2.1 9 = .ok (.istore_n 2, 1) := by decide +kernel
theorem dX9_uncared_10 : decode mX9_uncared.2.1 10 = .ok (.iload_n 2, 1) := by decide +kernel
theorem dX9_uncared_11 : decode mX9_uncared.2.1 11 = .ok (.aload_n 0, 1) := by decide +kernel
theorem dX9_uncared_12 : decode mX9_uncared.2.1 12 = .ok (.getfield 20, 3) := by decide +kernel
theorem dX9_uncared_15 : decode mX9_uncared.2.1 15 = .ok (.getfield 283, 3) := by decide +kernel
theorem dX9_uncared_18 : decode mX9_uncared.2.1 18 = .ok (.if_icmp .ge 51, 3) := by decide +kernel
theorem dX9_uncared_21 : decode mX9_uncared.2.1 21 = .ok (.iconst 0, 1) := by decide +kernel
theorem dX9_uncared_22 : decode mX9_uncared.2.1 22 = .ok (.istore_n 3, 1) := by decide +kernel
theorem dX9_uncared_23 : decode mX9_uncared.2.1 23 = .ok (.iload_n 3, 1) := by decide +kernel
theorem dX9_uncared_24 : decode mX9_uncared.2.1 24 = .ok (.aload_n 0, 1) := by decide +kernel
theorem dX9_uncared_25 : decode mX9_uncared.2.1 25 = .ok (.getfield 20, 3) := by decide +kernel
theorem dX9_uncared_28 : decode mX9_uncared.2.1 28 = .ok (.getfield 151, 3) := by decide +kernel
theorem dX9_uncared_31 : decode mX9_uncared.2.1 31 = .ok (.iload_n 2, 1) := by decide +kernel
theorem dX9_uncared_32 : decode mX9_uncared.2.1 32 = .ok (.iaload, 1) := by decide +kernel
theorem dX9_uncared_33 : decode mX9_uncared.2.1 33 = .ok (.if_icmp .ge 30, 3) := by decide +kernel
theorem dX9_uncared_36 : decode mX9_uncared.2.1 36 = .ok (.iload_n 1, 1) := by decide +kernel
theorem dX9_uncared_37 : decode mX9_uncared.2.1 37 = .ok (.iconst 1, 1) := by decide +kernel
theorem dX9_uncared_38 : decode mX9_uncared.2.1 38 = .ok (.aload_n 0, 1) := by decide +kernel
theorem dX9_uncared_39 : decode mX9_uncared.2.1 39 = .ok (.getfield 20, 3) := by decide +kernel
theorem dX9_uncared_42 : decode mX9_uncared.2.1 42 = .ok (.getfield 154, 3) := by decide +kernel
theorem dX9_uncared_45 : decode mX9_uncared.2.1 45 = .ok (.iload_n 2, 1) := by decide +kernel
theorem dX9_uncared_46 : decode mX9_uncared.2.1 46 = .ok (.bipush 6, 2) := by decide +kernel
theorem dX9_uncared_48 : decode mX9_uncared.2.1 48 = .ok (.imul, 1) := by decide +kernel
theorem dX9_uncared_49 : decode mX9_uncared.2.1 49 = .ok (.iload_n 3, 1) := by decide +kernel
theorem dX9_uncared_50 : decode mX9_uncared.2.1 50 = .ok (.iadd, 1) := by decide +kernel
theorem dX9_uncared_51 : decode mX9_uncared.2.1 51 = .ok (.iaload, 1) := by decide +kernel
theorem dX9_uncared_52 : decode mX9_uncared.2.1 52 = .ok (.ishl, 1) := by decide +kernel
theorem dX9_uncared_53 : decode mX9_uncared.2.1 53 = .ok (.iconst (-1), 1) := by decide +kernel
theorem dX9_uncared_54 : decode mX9_uncared.2.1 54 = .ok (.ixor, 1) := by decide +kernel
theorem dX9_uncared_55 : decode mX9_uncared.2.1 55 = .ok (.iand, 1) := by decide +kernel
theorem dX9_uncared_56 : decode mX9_uncared.2.1 56 = .ok (.istore_n 1, 1) := by decide +kernel
theorem dX9_uncared_57 : decode mX9_uncared.2.1 57 = .ok (.iinc 3 1, 3) := by decide +kernel
theorem dX9_uncared_60 : decode mX9_uncared.2.1 60 = .ok (.goto (-37), 3) := by decide +kernel
theorem dX9_uncared_63 : decode mX9_uncared.2.1 63 = .ok (.iinc 2 1, 3) := by decide +kernel
theorem dX9_uncared_66 : decode mX9_uncared.2.1 66 = .ok (.goto (-56), 3) := by decide +kernel
theorem dX9_uncared_69 : decode mX9_uncared.2.1 69 = .ok (.iload_n 1, 1) := by decide +kernel
theorem dX9_uncared_70 : decode mX9_uncared.2.1 70 = .ok (.ireturn, 1) := by decide +kernel
theorem bX9_uncared_0 {E : px_E} {d : Nat} {w : pw_W} {Q : Option Value → pw_W → Prop} {t : ct_T} (hw : w.1 = cs t) (ht1 : is_Hamlet t.1) 
    (k1 : px_W E mX9_uncared (d + 2) 0 0 10 [.ref 1, .int (hX2_allPeople w t.1), .int 0, .null] [] w Q) :
    px_W E mX9_uncared (d + 2) 0 0 0 [.ref 1, .null, .null, .null] [] w Q := by
  refine px_aload_n dX9_uncared_0 rfl rfl ?_
  refine px_getR (v := t.1) dX9_uncared_1 fr_9_20 rfl (px_sh1 hw sh_1) (px_rf hw rf_1_2) ht1.ne ?_
  refine px_callV (As := []) (st := []) (rc := 0) (rs := 0) (mc := 0) (ms := 0) dX9_uncared_4 lk_9_279 (px_sh1 hw ht1.sh) rfl rfl (Nat.le_of_ble_eq_true rfl) (sX2_allPeople (w := w) hw ht1 ?_)
  show px_W E mX9_uncared (d + 2) 0 0 7 [.ref 1, .null, .null, .null] [.int (hX2_allPeople w t.1)] w Q
  refine px_istore_n (ls' := [.ref 1, .int (hX2_allPeople w t.1), .null, .null]) dX9_uncared_7 rfl ⟨by decide, rfl⟩ rfl ?_
  refine px_iconst dX9_uncared_8 ic_0 ?_
  refine px_istore_n (ls' := [.ref 1, .int (hX2_allPeople w t.1), .int 0, .null]) dX9_uncared_9 rfl ⟨by decide, rfl⟩ rfl ?_
  exact k1
theorem eX9_uncared {E : px_E} {d : Nat} {w : pw_W} {Q : Option Value → pw_W → Prop} {t : ct_T} (hw : w.1 = cs t) (ht1 : is_Hamlet t.1) 
    (k1 : px_W E mX9_uncared (d + 2) 0 0 10 [.ref 1, .int (hX2_allPeople w t.1), .int 0, .null] [] w Q) :
    px_Call E (d + 2) 0 0 mX9_uncared [.ref 1] w Q :=
  px_enter (k := 3) (by decide) (Nat.le_of_ble_eq_true rfl) rfl (px_forget (bX9_uncared_0 hw ht1 k1) ⟨Or.inr rfl, Or.inl rfl, Or.inl rfl, Or.inl rfl, trivial⟩)
theorem bX9_uncared_10 {E : px_E} {d : Nat} {w : pw_W} {Q : Option Value → pw_W → Prop} {t : ct_T} (hw : w.1 = cs t) {x1 x2 : Int32} (ht1 : is_Hamlet t.1) 
    (k1 : (pw_I w t.1 8) ≤ x2 → Q (some (.int x1)) w)
    (k2 : ¬ (pw_I w t.1 8) ≤ x2 → px_W E mX9_uncared (d + 2) 0 0 23 [.ref 1, .int x1, .int x2, .int 0] [] w Q) :
    px_W E mX9_uncared (d + 2) 0 0 10 [.ref 1, .int x1, .int x2, .null] [] w Q := by
  refine px_iload_n dX9_uncared_10 rfl rfl ?_
  refine px_aload_n dX9_uncared_11 rfl rfl ?_
  refine px_getR (v := t.1) dX9_uncared_12 fr_9_20 rfl (px_sh1 hw sh_1) (px_rf hw rf_1_2) ht1.ne ?_
  refine px_getI dX9_uncared_15 fr_9_283 rfl (px_sh1 hw ht1.sh) ?_
  refine px_icmp_ge (tgt := 69) dX9_uncared_18 (by decide) (fun h1 => ?_) (fun h1 => ?_)
  ·
    refine px_iload_n dX9_uncared_69 rfl rfl ?_
    exact px_ireturn dX9_uncared_70 rfl rfl (k1 h1)
  ·
    refine px_iconst dX9_uncared_21 ic_0 ?_
    refine px_istore_n (ls' := [.ref 1, .int x1, .int x2, .int 0]) dX9_uncared_22 rfl ⟨by decide, rfl⟩ rfl ?_
    exact (k2 h1)
theorem bX9_uncared_23 {E : px_E} {d : Nat} {w : pw_W} {Q : Option Value → pw_W → Prop} {t : ct_T} (hw : w.1 = cs t) {x1 x2 x3 : Int32} (ht1 : is_Hamlet t.1) (j1 : Nat) (hj1 : x2 = nI j1) (hl1 : j1 < 2)
    (k1 : (pw_I w (t.1 + 8) j1) ≤ x3 → px_W E mX9_uncared (d + 2) 0 0 10 [.ref 1, .int x1, .int (x2 + 1), .null] [] w Q)
    (k2 : ¬ (pw_I w (t.1 + 8) j1) ≤ x3 → px_W E mX9_uncared (d + 2) 0 0 36 [.ref 1, .int x1, .int x2, .int x3] [] w Q) :
    px_W E mX9_uncared (d + 2) 0 0 23 [.ref 1, .int x1, .int x2, .int x3] [] w Q := by
  refine px_iload_n dX9_uncared_23 rfl rfl ?_
  refine px_aload_n dX9_uncared_24 rfl rfl ?_
  refine px_getR (v := t.1) dX9_uncared_25 fr_9_20 rfl (px_sh1 hw sh_1) (px_rf hw rf_1_2) ht1.ne ?_
  refine px_getR (v := (t.1 + 8)) dX9_uncared_28 fr_9_151 rfl (px_sh1 hw ht1.sh) (px_rf hw ht1.rf10) (Nat.succ_ne_zero _) ?_
  refine px_iload_n dX9_uncared_31 rfl rfl ?_
  refine px_iald dX9_uncared_32 (px_sh2 hw ht1.sh8) (by decide) j1 hj1 hl1 ?_
  refine px_icmp_ge (tgt := 63) dX9_uncared_33 (by decide) (fun h1 => ?_) (fun h1 => ?_)
  ·
    refine px_iinc (ls' := [.ref 1, .int x1, .int (x2 + 1), .int x3]) dX9_uncared_63 ⟨by decide, rfl⟩ rfl rfl rfl ?_
    refine px_goto (tgt := 10) dX9_uncared_66 (by decide) ?_
    exact px_forget (k1 h1) ⟨Or.inr rfl, Or.inr rfl, Or.inr rfl, Or.inl rfl, trivial⟩
  ·
    exact (k2 h1)
theorem bX9_uncared_36 {E : px_E} {d : Nat} {w : pw_W} {Q : Option Value → pw_W → Prop} {t : ct_T} (hw : w.1 = cs t) {x1 x2 x3 : Int32} (ht1 : is_Hamlet t.1) (j1 : Nat) (hj1 : ((x2 * 6) + x3) = nI j1) (hl1 : j1 < 12)
    (k1 : px_W E mX9_uncared (d + 2) 0 0 23 [.ref 1, .int (x1 &&& ((js_shl 1 (pw_I w (t.1 + 9) j1)) ^^^ (-1))), .int x2, .int (x3 + 1)] [] w Q) :
    px_W E mX9_uncared (d + 2) 0 0 36 [.ref 1, .int x1, .int x2, .int x3] [] w Q := by
  refine px_iload_n dX9_uncared_36 rfl rfl ?_
  refine px_iconst dX9_uncared_37 ic_1 ?_
  refine px_aload_n dX9_uncared_38 rfl rfl ?_
  refine px_getR (v := t.1) dX9_uncared_39 fr_9_20 rfl (px_sh1 hw sh_1) (px_rf hw rf_1_2) ht1.ne ?_
  refine px_getR (v := (t.1 + 9)) dX9_uncared_42 fr_9_154 rfl (px_sh1 hw ht1.sh) (px_rf hw ht1.rf11) (Nat.succ_ne_zero _) ?_
  refine px_iload_n dX9_uncared_45 rfl rfl ?_
  refine px_bipush dX9_uncared_46 bp_6 ?_
  refine px_imul dX9_uncared_48 ?_
  refine px_iload_n dX9_uncared_49 rfl rfl ?_
  refine px_iadd dX9_uncared_50 ?_
  refine px_iald dX9_uncared_51 (px_sh2 hw ht1.sh9) (by decide) j1 hj1 hl1 ?_
  refine px_ishl dX9_uncared_52 ?_
  refine px_iconst dX9_uncared_53 ic_m1 ?_
  refine px_ixor dX9_uncared_54 ?_
  refine px_iand dX9_uncared_55 ?_
  refine px_istore_n (ls' := [.ref 1, .int (x1 &&& ((js_shl 1 (pw_I w (t.1 + 9) j1)) ^^^ (-1))), .int x2, .int x3]) dX9_uncared_56 rfl ⟨by decide, rfl⟩ rfl ?_
  refine px_iinc (ls' := [.ref 1, .int (x1 &&& ((js_shl 1 (pw_I w (t.1 + 9) j1)) ^^^ (-1))), .int x2, .int (x3 + 1)]) dX9_uncared_57 ⟨by decide, rfl⟩ rfl rfl rfl ?_
  refine px_goto (tgt := 23) dX9_uncared_60 (by decide) ?_
  exact k1
theorem dX9_law_0 : decode mX9_law.2.1 0 = .ok (.iload_n 1, 1) := by decide +kernel
theorem dX9_law_1 : decode mX9_law.2.1 1 = .ok (.bipush 30, 2) := by decide +kernel
theorem dX9_law_3 : decode mX9_law.2.1 3 = .ok (.invokestatic 199, 3) := by decide +kernel
theorem dX9_law_6 : decode mX9_law.2.1 6 = .ok (.ifCond .eq 24, 3) := by decide +kernel
theorem dX9_law_9 : decode mX9_law.2.1 9 = .ok (.aload_n 0, 1) := by decide +kernel
theorem dX9_law_10 : decode mX9_law.2.1 10 = .ok (.getfield 61, 3) := by decide +kernel
theorem dX9_law_13 : decode mX9_law.2.1 13 = .ok (.aload_n 0, 1) := by decide +kernel
theorem dX9_law_14 : decode mX9_law.2.1 14 = .ok (.getfield 20, 3) := by decide +kernel
theorem dX9_law_17 : decode mX9_law.2.1 17 = .ok (.aload_n 0, 1) := by decide +kernel
theorem dX9_law_18 : decode mX9_law.2.1 18 = .ok (.getfield 40, 3) := by decide +kernel
theorem dX9_law_21 : decode mX9_law.2.1 21 = .ok (.iload_n 1, 1) := by decide +kernel
theorem dX9_law_22 : decode mX9_law.2.1 22 = .ok (.bipush 7, 2) := by decide +kernel
theorem dX9_law_24 : decode mX9_law.2.1 24 = .ok (.invokevirtual 286, 3) := by decide +kernel
theorem dX9_law_27 : decode mX9_law.2.1 27 = .ok (.goto 4, 3) := by decide +kernel
theorem dX9_law_30 : decode mX9_law.2.1 30 = .ok (.iconst (-1), 1) := by decide +kernel
theorem dX9_law_31 : decode mX9_law.2.1 31 = .ok (.ireturn, 1) := by decide +kernel
theorem bX9_law_0 {E : px_E} {d : Nat} {w : pw_W} {Q : Option Value → pw_W → Prop} {t : ct_T} (hw : w.1 = cs t) {x1 : Int32} (ht1 : is_Hamlet t.1) 
    (k1 : ¬ (pX9_isWithin x1 30) → px_W E mX9_law (d + 2) 0 0 31 [.null, .null] [.int (-1)] w Q)
    (k2 : (pX9_isWithin x1 30) → px_Call E (d + 1) 0 0 mX4_hurtIfAllAre [.ref 41, .ref t.1, .ref 35, .int x1, .int 7] w (fun v w' => px_W E mX9_law (d + 2) 0 0 27 [.null, .null] (v.toList ++ []) w' Q)) :
    px_W E mX9_law (d + 2) 0 0 0 [.ref 1, .int x1] [] w Q := by
  refine px_iload_n dX9_law_0 rfl rfl ?_
  refine px_bipush dX9_law_1 bp_30 ?_
  refine px_callS (As := [.int x1, .int 30]) (st := []) (rc := 0) (rs := 0) (mc := 0) (ms := 0) dX9_law_3 lk_9_199 rfl rfl (Nat.le_of_ble_eq_true rfl) (sX9_isWithin ?_)
  show px_W E mX9_law (d + 2) 0 0 6 [.ref 1, .int x1] [.int (jb (pX9_isWithin x1 30))] w Q
  refine px_jb_eq (tgt := 30) dX9_law_6 (by decide) (fun h1 => ?_) (fun h1 => ?_)
  ·
    refine px_iconst dX9_law_30 ic_m1 ?_
    exact px_forget (k1 h1) ⟨Or.inl rfl, Or.inl rfl, trivial⟩
  ·
    refine px_aload_n dX9_law_9 rfl rfl ?_
    refine px_getR (v := 41) dX9_law_10 fr_9_61 rfl (px_sh1 hw sh_1) (px_rf hw rf_1_10) (by decide) ?_
    refine px_aload_n dX9_law_13 rfl rfl ?_
    refine px_getR (v := t.1) dX9_law_14 fr_9_20 rfl (px_sh1 hw sh_1) (px_rf hw rf_1_2) ht1.ne ?_
    refine px_aload_n dX9_law_17 rfl rfl ?_
    refine px_getR (v := 35) dX9_law_18 fr_9_40 rfl (px_sh1 hw sh_1) (px_rf hw rf_1_6) (by decide) ?_
    refine px_iload_n dX9_law_21 rfl rfl ?_
    refine px_bipush dX9_law_22 bp_7 ?_
    refine px_forget (ls' := [.null, .null]) ?_ ⟨Or.inl rfl, Or.inl rfl, trivial⟩
    exact px_callV (As := [.ref t.1, .ref 35, .int x1, .int 7]) (st := []) (rc := 0) (rs := 0) (mc := 0) (ms := 0) dX9_law_24 lk_9_286 (px_sh1 hw sh_41) rfl rfl (Nat.le_of_ble_eq_true rfl) (k2 h1)
theorem eX9_law {E : px_E} {d : Nat} {w : pw_W} {Q : Option Value → pw_W → Prop} {t : ct_T} (hw : w.1 = cs t) {x1 : Int32} (ht1 : is_Hamlet t.1) 
    (k1 : ¬ (pX9_isWithin x1 30) → px_W E mX9_law (d + 2) 0 0 31 [.null, .null] [.int (-1)] w Q)
    (k2 : (pX9_isWithin x1 30) → px_Call E (d + 1) 0 0 mX4_hurtIfAllAre [.ref 41, .ref t.1, .ref 35, .int x1, .int 7] w (fun v w' => px_W E mX9_law (d + 2) 0 0 27 [.null, .null] (v.toList ++ []) w' Q)) :
    px_Call E (d + 2) 0 0 mX9_law [.ref 1, .int x1] w Q :=
  px_enter (k := 0) (by decide) (Nat.le_of_ble_eq_true rfl) rfl (px_forget (bX9_law_0 hw ht1 k1 k2) ⟨Or.inr rfl, Or.inr rfl, trivial⟩)
theorem bX9_law_27 {E : px_E} {d : Nat} {w : pw_W} {Q : Option Value → pw_W → Prop} {t : ct_T} (hw : w.1 = cs t) {y0 : Int32} (ht1 : is_Hamlet t.1) 
    (k1 : px_W E mX9_law (d + 2) 0 0 31 [.null, .null] [.int y0] w Q) :
    px_W E mX9_law (d + 2) 0 0 27 [.null, .null] [.int y0] w Q := by
  refine px_goto (tgt := 31) dX9_law_27 (by decide) ?_
  exact k1
theorem bX9_law_31 {E : px_E} {d : Nat} {w : pw_W} {Q : Option Value → pw_W → Prop} {t : ct_T} (hw : w.1 = cs t) {y0 : Int32} (ht1 : is_Hamlet t.1) 
    (k1 : Q (some (.int y0)) w) :
    px_W E mX9_law (d + 2) 0 0 31 [.null, .null] [.int y0] w Q := by
  exact px_ireturn dX9_law_31 rfl rfl k1
theorem dX9_next_0 : decode mX9_next.2.1 0 = .ok (.aload_n 0, 1) := by decide +kernel
theorem dX9_next_1 : decode mX9_next.2.1 1 = .ok (.iload_n 1, 1) := by decide +kernel
theorem dX9_next_2 : decode mX9_next.2.1 2 = .ok (.invokevirtual 130, 3) := by decide +kernel
theorem dX9_next_5 : decode mX9_next.2.1 5 = .ok (.ifCond .eq 24, 3) := by decide +kernel
theorem dX9_next_8 : decode mX9_next.2.1 8 = .ok (.aload_n 0, 1) := by decide +kernel
theorem dX9_next_9 : decode mX9_next.2.1 9 = .ok (.getfield 61, 3) := by decide +kernel
theorem dX9_next_12 : decode mX9_next.2.1 12 = .ok (.aload_n 0, 1) := by decide +kernel
theorem dX9_next_13 : decode mX9_next.2.1 13 = .ok (.getfield 20, 3) := by decide +kernel
theorem dX9_next_16 : decode mX9_next.2.1 16 = .ok (.aload_n 0, 1) := by decide +kernel
theorem dX9_next_17 : decode mX9_next.2.1 17 = .ok (.getfield 40, 3) := by decide +kernel
theorem dX9_next_20 : decode mX9_next.2.1 20 = .ok (.iload_n 1, 1) := by decide +kernel
theorem dX9_next_21 : decode mX9_next.2.1 21 = .ok (.bipush 60, 2) := by decide +kernel
theorem dX9_next_23 : decode mX9_next.2.1 23 = .ok (.invokevirtual 289, 3) := by decide +kernel
theorem dX9_next_26 : decode mX9_next.2.1 26 = .ok (.goto 4, 3) := by decide +kernel
theorem dX9_next_29 : decode mX9_next.2.1 29 = .ok (.iconst (-1), 1) := by decide +kernel
theorem dX9_next_30 : decode mX9_next.2.1 30 = .ok (.ireturn, 1) := by decide +kernel
theorem bX9_next_0 {E : px_E} {d : Nat} {w : pw_W} {Q : Option Value → pw_W → Prop} {t : ct_T} (hw : w.1 = cs t) {x1 : Int32} (ht1 : is_Hamlet t.1) 
    (k1 : ¬ (pX9_isMeeting w t x1) → px_W E mX9_next (d + 2) 0 0 30 [.null, .null] [.int (-1)] w Q)
    (k2 : (pX9_isMeeting w t x1) → px_Call E (d + 1) 0 0 mX4_daysTillMeeting [.ref 41, .ref t.1, .ref 35, .int x1, .int 60] w (fun v w' => px_W E mX9_next (d + 2) 0 0 26 [.null, .null] (v.toList ++ []) w' Q)) :
    px_W E mX9_next (d + 2) 0 0 0 [.ref 1, .int x1] [] w Q := by
  refine px_aload_n dX9_next_0 rfl rfl ?_
  refine px_iload_n dX9_next_1 rfl rfl ?_
  refine px_callV (As := [.int x1]) (st := []) (rc := 0) (rs := 0) (mc := 0) (ms := 0) dX9_next_2 lk_9_130 (px_sh1 hw sh_1) rfl rfl (Nat.le_of_ble_eq_true rfl) (sX9_isMeeting (w := w) hw ht1 ?_)
  show px_W E mX9_next (d + 2) 0 0 5 [.ref 1, .int x1] [.int (jb (pX9_isMeeting w t x1))] w Q
  refine px_jb_eq (tgt := 29) dX9_next_5 (by decide) (fun h1 => ?_) (fun h1 => ?_)
  ·
    refine px_iconst dX9_next_29 ic_m1 ?_
    exact px_forget (k1 h1) ⟨Or.inl rfl, Or.inl rfl, trivial⟩
  ·
    refine px_aload_n dX9_next_8 rfl rfl ?_
    refine px_getR (v := 41) dX9_next_9 fr_9_61 rfl (px_sh1 hw sh_1) (px_rf hw rf_1_10) (by decide) ?_
    refine px_aload_n dX9_next_12 rfl rfl ?_
    refine px_getR (v := t.1) dX9_next_13 fr_9_20 rfl (px_sh1 hw sh_1) (px_rf hw rf_1_2) ht1.ne ?_
    refine px_aload_n dX9_next_16 rfl rfl ?_
    refine px_getR (v := 35) dX9_next_17 fr_9_40 rfl (px_sh1 hw sh_1) (px_rf hw rf_1_6) (by decide) ?_
    refine px_iload_n dX9_next_20 rfl rfl ?_
    refine px_bipush dX9_next_21 bp_60 ?_
    refine px_forget (ls' := [.null, .null]) ?_ ⟨Or.inl rfl, Or.inl rfl, trivial⟩
    exact px_callV (As := [.ref t.1, .ref 35, .int x1, .int 60]) (st := []) (rc := 0) (rs := 0) (mc := 0) (ms := 0) dX9_next_23 lk_9_289 (px_sh1 hw sh_41) rfl rfl (Nat.le_of_ble_eq_true rfl) (k2 h1)
theorem eX9_next {E : px_E} {d : Nat} {w : pw_W} {Q : Option Value → pw_W → Prop} {t : ct_T} (hw : w.1 = cs t) {x1 : Int32} (ht1 : is_Hamlet t.1) 
    (k1 : ¬ (pX9_isMeeting w t x1) → px_W E mX9_next (d + 2) 0 0 30 [.null, .null] [.int (-1)] w Q)
    (k2 : (pX9_isMeeting w t x1) → px_Call E (d + 1) 0 0 mX4_daysTillMeeting [.ref 41, .ref t.1, .ref 35, .int x1, .int 60] w (fun v w' => px_W E mX9_next (d + 2) 0 0 26 [.null, .null] (v.toList ++ []) w' Q)) :
    px_Call E (d + 2) 0 0 mX9_next [.ref 1, .int x1] w Q :=
  px_enter (k := 0) (by decide) (Nat.le_of_ble_eq_true rfl) rfl (px_forget (bX9_next_0 hw ht1 k1 k2) ⟨Or.inr rfl, Or.inr rfl, trivial⟩)
theorem bX9_next_26 {E : px_E} {d : Nat} {w : pw_W} {Q : Option Value → pw_W → Prop} {t : ct_T} (hw : w.1 = cs t) {y0 : Int32} (ht1 : is_Hamlet t.1) 
    (k1 : px_W E mX9_next (d + 2) 0 0 30 [.null, .null] [.int y0] w Q) :
    px_W E mX9_next (d + 2) 0 0 26 [.null, .null] [.int y0] w Q := by
  refine px_goto (tgt := 30) dX9_next_26 (by decide) ?_
  exact k1
theorem bX9_next_30 {E : px_E} {d : Nat} {w : pw_W} {Q : Option Value → pw_W → Prop} {t : ct_T} (hw : w.1 = cs t) {y0 : Int32} (ht1 : is_Hamlet t.1) 
    (k1 : Q (some (.int y0)) w) :
    px_W E mX9_next (d + 2) 0 0 30 [.null, .null] [.int y0] w Q := by
  exact px_ireturn dX9_next_30 rfl rfl k1
theorem dX9_odds_0 : decode mX9_odds.2.1 0 = .ok (.iload_n 1, 1) := by decide +kernel
theorem dX9_odds_1 : decode mX9_odds.2.1 1 = .ok (.iconst 4, 1) := by decide +kernel
theorem dX9_odds_2 : decode mX9_odds.2.1 2 = .ok (.invokestatic 199, 3) := by decide +kernel
theorem dX9_odds_5 : decode mX9_odds.2.1 5 = .ok (.ifCond .eq 10, 3) := by decide +kernel
theorem dX9_odds_8 : decode mX9_odds.2.1 8 = .ok (.iload_n 2, 1) := by decide +kernel
theorem dX9_odds_9 : decode mX9_odds.2.1 9 = .ok (.invokestatic 157, 3) := by decide +kernel
theorem dX9_odds_12 : decode mX9_odds.2.1 12 = .ok (.ifCond .ne 5, 3) := by decide +kernel
theorem dX9_odds_15 : decode mX9_odds.2.1 15 = .ok (.iconst (-1), 1) := by decide +kernel
theorem dX9_odds_16 : decode mX9_odds.2.1 16 = .ok (.ireturn, 1) := by decide +kernel
theorem dX9_odds_17 : decode mX9_odds.2.1 17 = .ok (.bipush 100, 2) := by decide +kernel
theorem dX9_odds_19 : decode mX9_odds.2.1 19 = .ok (.aload_n 0, 1) := by decide +kernel
theorem dX9_odds_20 : decode mX9_odds.2.1 20 = .ok (.getfield 20, 3) := by decide +kernel
theorem dX9_odds_23 : decode mX9_odds.2.1 23 = .ok (.getfield 292, 3) := by decide +kernel
theorem dX9_odds_26 : decode mX9_odds.2.1 26 = .ok (.isub, 1) := by decide +kernel
theorem dX9_odds_27 : decode mX9_odds.2.1 27 = .ok (.istore_n 3, 1) := by decide +kernel
theorem dX9_odds_28 : decode mX9_odds.2.1 28 = .ok (.bipush 100, 2) := by decide +kernel
theorem dX9_odds_30 : decode mX9_odds.2.1 30 = .ok (.iload_n 3, 1) := by decide +kernel
theorem dX9_odds_31 : decode mX9_odds.2.1 31 = .ok (.invokestatic 295, 3) := by decide +kernel
theorem dX9_odds_34 : decode mX9_odds.2.1 34 = .ok (.istore 4, 2) := by decide +kernel
theorem dX9_odds_36 : decode mX9_odds.2.1 36 = .ok (.iload_n 2, 1) := by decide +kernel
theorem dX9_odds_37 : decode mX9_odds.2.1 37 = .ok (.ifCond .ne 7, 3) := by decide +kernel
theorem dX9_odds_40 : decode mX9_odds.2.1 40 = .ok (.iload_n 3, 1) := by decide +kernel
theorem dX9_odds_41 : decode mX9_odds.2.1 41 = .ok (.goto 5, 3) := by decide +kernel
theorem dX9_odds_44 : decode mX9_odds.2.1 44 = .ok (.bipush 100, 2) := by decide +kernel
theorem dX9_odds_46 : decode mX9_odds.2.1 46 = .ok (.iload 4, 2) := by decide +kernel
theorem dX9_odds_48 : decode mX9_odds.2.1 48 = .ok (.idiv, 1) := by decide +kernel
theorem dX9_odds_49 : decode mX9_odds.2.1 49 = .ok (.istore 5, 2) := by decide +kernel
theorem dX9_odds_51 : decode mX9_odds.2.1 51 = .ok (.iconst 1, 1) := by decide +kernel
theorem dX9_odds_52 : decode mX9_odds.2.1 52 = .ok (.istore 6, 2) := by decide +kernel
theorem dX9_odds_54 : decode mX9_odds.2.1 54 = .ok (.iconst 0, 1) := by decide +kernel
theorem dX9_odds_55 : decode mX9_odds.2.1 55 = .ok (.istore 7, 2) := by decide +kernel
theorem dX9_odds_57 : decode mX9_odds.2.1 57 = .ok (.iload 7, 2) := by decide +kernel
theorem dX9_odds_59 : decode mX9_odds.2.1 59 = .ok (.iload_n 1, 1) := by decide +kernel
theorem dX9_odds_60 : decode mX9_odds.2.1 60 = .ok (.if_icmp .ge 16, 3) := by decide +kernel
theorem dX9_odds_63 : decode mX9_odds.2.1 63 = .ok (.iload 6, 2) := by decide +kernel
theorem dX9_odds_65 : decode mX9_odds.2.1 65 = .ok (.iload 5, 2) := by decide +kernel
theorem dX9_odds_67 : decode mX9_odds.2.1 67 = .ok (.imul, 1) := by decide +kernel
theorem dX9_odds_68 : decode mX9_odds.2.1 68 = .ok (.istore 6, 2) := by decide +kernel
theorem dX9_odds_70 : decode mX9_odds.2.1 70 = .ok (.iinc 7 1, 3) := by decide +kernel
theorem dX9_odds_73 : decode mX9_odds.2.1 73 = .ok (.goto (-16), 3) := by decide +kernel
theorem dX9_odds_76 : decode mX9_odds.2.1 76 = .ok (.iload 6, 2) := by decide +kernel
theorem dX9_odds_78 : decode mX9_odds.2.1 78 = .ok (.ireturn, 1) := by decide +kernel
theorem bX9_odds_0 {E : px_E} {d : Nat} {w : pw_W} {Q : Option Value → pw_W → Prop} {t : ct_T} (hw : w.1 = cs t) {x1 x2 : Int32} (ht1 : is_Hamlet t.1) 
    (k1 : ¬ (pX9_isWithin x1 4) → px_W E mX9_odds (d + 2) 0 0 15 [.null, .null, .null, .null, .null, .null, .null, .null] [] w Q)
    (k2 : (pX9_isWithin x1 4) → (pX9_isZeroOrOne x2) → px_Call E (d + 1) 0 0 mX9_greatestDivisor [.int 100, .int (100 - (pw_I w t.1 13))] w (fun v w' => px_W E mX9_odds (d + 2) 0 0 34 [.null, .int x1, .int x2, .int (100 - (pw_I w t.1 13)), .null, .null, .null, .null] (v.toList ++ []) w' Q))
    (k3 : (pX9_isWithin x1 4) → ¬ (pX9_isZeroOrOne x2) → px_W E mX9_odds (d + 2) 0 0 15 [.null, .null, .null, .null, .null, .null, .null, .null] [] w Q) :
    px_W E mX9_odds (d + 2) 0 0 0 [.ref 1, .int x1, .int x2, .null, .null, .null, .null, .null] [] w Q := by
  refine px_iload_n dX9_odds_0 rfl rfl ?_
  refine px_iconst dX9_odds_1 ic_4 ?_
  refine px_callS (As := [.int x1, .int 4]) (st := []) (rc := 0) (rs := 0) (mc := 0) (ms := 0) dX9_odds_2 lk_9_199 rfl rfl (Nat.le_of_ble_eq_true rfl) (sX9_isWithin ?_)
  show px_W E mX9_odds (d + 2) 0 0 5 [.ref 1, .int x1, .int x2, .null, .null, .null, .null, .null] [.int (jb (pX9_isWithin x1 4))] w Q
  refine px_jb_eq (tgt := 15) dX9_odds_5 (by decide) (fun h1 => ?_) (fun h1 => ?_)
  ·
    exact px_forget (k1 h1) ⟨Or.inl rfl, Or.inl rfl, Or.inl rfl, Or.inl rfl, Or.inl rfl, Or.inl rfl, Or.inl rfl, Or.inl rfl, trivial⟩
  ·
    refine px_iload_n dX9_odds_8 rfl rfl ?_
    refine px_callS (As := [.int x2]) (st := []) (rc := 0) (rs := 0) (mc := 0) (ms := 0) dX9_odds_9 lk_9_157 rfl rfl (Nat.le_of_ble_eq_true rfl) (sX9_isZeroOrOne ?_)
    show px_W E mX9_odds (d + 2) 0 0 12 [.ref 1, .int x1, .int x2, .null, .null, .null, .null, .null] [.int (jb (pX9_isZeroOrOne x2))] w Q
    refine px_jb_ne (tgt := 17) dX9_odds_12 (by decide) (fun h2 => ?_) (fun h2 => ?_)
    ·
      refine px_bipush dX9_odds_17 bp_100 ?_
      refine px_aload_n dX9_odds_19 rfl rfl ?_
      refine px_getR (v := t.1) dX9_odds_20 fr_9_20 rfl (px_sh1 hw sh_1) (px_rf hw rf_1_2) ht1.ne ?_
      refine px_getI dX9_odds_23 fr_9_292 rfl (px_sh1 hw ht1.sh) ?_
      refine px_isub dX9_odds_26 ?_
      refine px_istore_n (ls' := [.ref 1, .int x1, .int x2, .int (100 - (pw_I w t.1 13)), .null, .null, .null, .null]) dX9_odds_27 rfl ⟨by decide, rfl⟩ rfl ?_
      refine px_bipush dX9_odds_28 bp_100 ?_
      refine px_iload_n dX9_odds_30 rfl rfl ?_
      refine px_forget (ls' := [.null, .int x1, .int x2, .int (100 - (pw_I w t.1 13)), .null, .null, .null, .null]) ?_ ⟨Or.inl rfl, Or.inr rfl, Or.inr rfl, Or.inr rfl, Or.inl rfl, Or.inl rfl, Or.inl rfl, Or.inl rfl, trivial⟩
      exact px_callS (As := [.int 100, .int (100 - (pw_I w t.1 13))]) (st := []) (rc := 0) (rs := 0) (mc := 0) (ms := 0) dX9_odds_31 lk_9_295 rfl rfl (Nat.le_of_ble_eq_true rfl) (k2 h1 h2)
    ·
      exact px_forget (k3 h1 h2) ⟨Or.inl rfl, Or.inl rfl, Or.inl rfl, Or.inl rfl, Or.inl rfl, Or.inl rfl, Or.inl rfl, Or.inl rfl, trivial⟩
theorem eX9_odds {E : px_E} {d : Nat} {w : pw_W} {Q : Option Value → pw_W → Prop} {t : ct_T} (hw : w.1 = cs t) {x1 x2 : Int32} (ht1 : is_Hamlet t.1) 
    (k1 : ¬ (pX9_isWithin x1 4) → px_W E mX9_odds (d + 2) 0 0 15 [.null, .null, .null, .null, .null, .null, .null, .null] [] w Q)
    (k2 : (pX9_isWithin x1 4) → (pX9_isZeroOrOne x2) → px_Call E (d + 1) 0 0 mX9_greatestDivisor [.int 100, .int (100 - (pw_I w t.1 13))] w (fun v w' => px_W E mX9_odds (d + 2) 0 0 34 [.null, .int x1, .int x2, .int (100 - (pw_I w t.1 13)), .null, .null, .null, .null] (v.toList ++ []) w' Q))
    (k3 : (pX9_isWithin x1 4) → ¬ (pX9_isZeroOrOne x2) → px_W E mX9_odds (d + 2) 0 0 15 [.null, .null, .null, .null, .null, .null, .null, .null] [] w Q) :
    px_Call E (d + 2) 0 0 mX9_odds [.ref 1, .int x1, .int x2] w Q :=
  px_enter (k := 5) (by decide) (Nat.le_of_ble_eq_true rfl) rfl (px_forget (bX9_odds_0 hw ht1 k1 k2 k3) ⟨Or.inr rfl, Or.inr rfl, Or.inr rfl, Or.inl rfl, Or.inl rfl, Or.inl rfl, Or.inl rfl, Or.inl rfl, trivial⟩)
theorem bX9_odds_15 {E : px_E} {d : Nat} {w : pw_W} {Q : Option Value → pw_W → Prop} {t : ct_T} (hw : w.1 = cs t) (ht1 : is_Hamlet t.1) 
    (k1 : Q (some (.int (-1))) w) :
    px_W E mX9_odds (d + 2) 0 0 15 [.null, .null, .null, .null, .null, .null, .null, .null] [] w Q := by
  refine px_iconst dX9_odds_15 ic_m1 ?_
  exact px_ireturn dX9_odds_16 rfl rfl k1
theorem bX9_odds_34 {E : px_E} {d : Nat} {w : pw_W} {Q : Option Value → pw_W → Prop} {t : ct_T} (hw : w.1 = cs t) {x1 x2 x3 y0 : Int32} (ht1 : is_Hamlet t.1) 
    (k1 : ¬ x2 = 0 → px_W E mX9_odds (d + 2) 0 0 46 [.null, .int x1, .null, .null, .int y0, .null, .null, .null] [.int 100] w Q)
    (k2 : x2 = 0 → px_W E mX9_odds (d + 2) 0 0 46 [.null, .int x1, .null, .null, .int y0, .null, .null, .null] [.int x3] w Q) :
    px_W E mX9_odds (d + 2) 0 0 34 [.null, .int x1, .int x2, .int x3, .null, .null, .null, .null] [.int y0] w Q := by
  refine px_istore (ls' := [.null, .int x1, .int x2, .int x3, .int y0, .null, .null, .null]) dX9_odds_34 ⟨by decide, rfl⟩ rfl ?_
  refine px_iload_n dX9_odds_36 rfl rfl ?_
  refine px_if_ne (tgt := 44) dX9_odds_37 (by decide) (fun h1 => ?_) (fun h1 => ?_)
  ·
    refine px_bipush dX9_odds_44 bp_100 ?_
    exact px_forget (k1 h1) ⟨Or.inl rfl, Or.inr rfl, Or.inl rfl, Or.inl rfl, Or.inr rfl, Or.inl rfl, Or.inl rfl, Or.inl rfl, trivial⟩
  ·
    refine px_iload_n dX9_odds_40 rfl rfl ?_
    refine px_goto (tgt := 46) dX9_odds_41 (by decide) ?_
    exact px_forget (k2 h1) ⟨Or.inl rfl, Or.inr rfl, Or.inl rfl, Or.inl rfl, Or.inr rfl, Or.inl rfl, Or.inl rfl, Or.inl rfl, trivial⟩
theorem bX9_odds_46 {E : px_E} {d : Nat} {w : pw_W} {Q : Option Value → pw_W → Prop} {t : ct_T} (hw : w.1 = cs t) {x1 x4 y0 : Int32} (ht1 : is_Hamlet t.1) (hz1 : ¬ x4 = 0)
    (k1 : px_W E mX9_odds (d + 2) 0 0 57 [.null, .int x1, .null, .null, .null, .int (y0 / x4), .int 1, .int 0] [] w Q) :
    px_W E mX9_odds (d + 2) 0 0 46 [.null, .int x1, .null, .null, .int x4, .null, .null, .null] [.int y0] w Q := by
  refine px_iload dX9_odds_46 rfl ?_
  refine px_idiv dX9_odds_48 hz1 ?_
  refine px_istore (ls' := [.null, .int x1, .null, .null, .int x4, .int (y0 / x4), .null, .null]) dX9_odds_49 ⟨by decide, rfl⟩ rfl ?_
  refine px_iconst dX9_odds_51 ic_1 ?_
  refine px_istore (ls' := [.null, .int x1, .null, .null, .int x4, .int (y0 / x4), .int 1, .null]) dX9_odds_52 ⟨by decide, rfl⟩ rfl ?_
  refine px_iconst dX9_odds_54 ic_0 ?_
  refine px_istore (ls' := [.null, .int x1, .null, .null, .int x4, .int (y0 / x4), .int 1, .int 0]) dX9_odds_55 ⟨by decide, rfl⟩ rfl ?_
  exact px_forget k1 ⟨Or.inl rfl, Or.inr rfl, Or.inl rfl, Or.inl rfl, Or.inl rfl, Or.inr rfl, Or.inr rfl, Or.inr rfl, trivial⟩
theorem bX9_odds_57 {E : px_E} {d : Nat} {w : pw_W} {Q : Option Value → pw_W → Prop} {t : ct_T} (hw : w.1 = cs t) {x1 x5 x6 x7 : Int32} (ht1 : is_Hamlet t.1) 
    (k1 : x1 ≤ x7 → Q (some (.int x6)) w)
    (k2 : ¬ x1 ≤ x7 → px_W E mX9_odds (d + 2) 0 0 57 [.null, .int x1, .null, .null, .null, .int x5, .int (x6 * x5), .int (x7 + 1)] [] w Q) :
    px_W E mX9_odds (d + 2) 0 0 57 [.null, .int x1, .null, .null, .null, .int x5, .int x6, .int x7] [] w Q := by
  refine px_iload dX9_odds_57 rfl ?_
  refine px_iload_n dX9_odds_59 rfl rfl ?_
  refine px_icmp_ge (tgt := 76) dX9_odds_60 (by decide) (fun h1 => ?_) (fun h1 => ?_)
  ·
    refine px_iload dX9_odds_76 rfl ?_
    exact px_ireturn dX9_odds_78 rfl rfl (k1 h1)
  ·
    refine px_iload dX9_odds_63 rfl ?_
    refine px_iload dX9_odds_65 rfl ?_
    refine px_imul dX9_odds_67 ?_
    refine px_istore (ls' := [.null, .int x1, .null, .null, .null, .int x5, .int (x6 * x5), .int x7]) dX9_odds_68 ⟨by decide, rfl⟩ rfl ?_
    refine px_iinc (ls' := [.null, .int x1, .null, .null, .null, .int x5, .int (x6 * x5), .int (x7 + 1)]) dX9_odds_70 ⟨by decide, rfl⟩ rfl rfl rfl ?_
    refine px_goto (tgt := 57) dX9_odds_73 (by decide) ?_
    exact (k2 h1)
theorem dX9_lies_0 : decode mX9_lies.2.1 0 = .ok (.iload_n 1, 1) := by decide +kernel
theorem dX9_lies_1 : decode mX9_lies.2.1 1 = .ok (.ifCond .lt 20, 3) := by decide +kernel
theorem dX9_lies_4 : decode mX9_lies.2.1 4 = .ok (.iload_n 1, 1) := by decide +kernel
theorem dX9_lies_5 : decode mX9_lies.2.1 5 = .ok (.aload_n 0, 1) := by decide +kernel
theorem dX9_lies_6 : decode mX9_lies.2.1 6 = .ok (.getfield 82, 3) := by decide +kernel
theorem dX9_lies_9 : decode mX9_lies.2.1 9 = .ok (.if_icmp .ge 12, 3) := by decide +kernel
theorem dX9_lies_12 : decode mX9_lies.2.1 12 = .ok (.aload_n 0, 1) := by decide +kernel
theorem dX9_lies_13 : decode mX9_lies.2.1 13 = .ok (.getfield 79, 3) := by decide +kernel
theorem dX9_lies_16 : decode mX9_lies.2.1 16 = .ok (.iload_n 1, 1) := by decide +kernel
theorem dX9_lies_17 : decode mX9_lies.2.1 17 = .ok (.iaload, 1) := by decide +kernel
theorem dX9_lies_18 : decode mX9_lies.2.1 18 = .ok (.goto 5, 3) := by decide +kernel
theorem dX9_lies_21 : decode mX9_lies.2.1 21 = .ok (.bipush (-2), 2) := by decide +kernel
theorem dX9_lies_23 : decode mX9_lies.2.1 23 = .ok (.ireturn, 1) := by decide +kernel
theorem bX9_lies_0 {E : px_E} {d : Nat} {w : pw_W} {Q : Option Value → pw_W → Prop} {t : ct_T} (hw : w.1 = cs t) {x1 : Int32}  
    (k1 : x1 < 0 → px_W E mX9_lies (d + 1) 0 0 21 [.null, .null] [] w Q)
    (k2 : ¬ x1 < 0 → (pw_I w 1 14) ≤ x1 → px_W E mX9_lies (d + 1) 0 0 21 [.null, .null] [] w Q)
    (k3 : ¬ x1 < 0 → ¬ (pw_I w 1 14) ≤ x1 → px_W E mX9_lies (d + 1) 0 0 12 [.ref 1, .int x1] [] w Q) :
    px_W E mX9_lies (d + 1) 0 0 0 [.ref 1, .int x1] [] w Q := by
  refine px_iload_n dX9_lies_0 rfl rfl ?_
  refine px_if_lt (tgt := 21) dX9_lies_1 (by decide) (fun h1 => ?_) (fun h1 => ?_)
  ·
    exact px_forget (k1 h1) ⟨Or.inl rfl, Or.inl rfl, trivial⟩
  ·
    refine px_iload_n dX9_lies_4 rfl rfl ?_
    refine px_aload_n dX9_lies_5 rfl rfl ?_
    refine px_getI dX9_lies_6 fr_9_82 rfl (px_sh1 hw sh_1) ?_
    refine px_icmp_ge (tgt := 21) dX9_lies_9 (by decide) (fun h2 => ?_) (fun h2 => ?_)
    ·
      exact px_forget (k2 h1 h2) ⟨Or.inl rfl, Or.inl rfl, trivial⟩
    ·
      exact (k3 h1 h2)
theorem eX9_lies {E : px_E} {d : Nat} {w : pw_W} {Q : Option Value → pw_W → Prop} {t : ct_T} (hw : w.1 = cs t) {x1 : Int32}  
    (k1 : x1 < 0 → px_W E mX9_lies (d + 1) 0 0 21 [.null, .null] [] w Q)
    (k2 : ¬ x1 < 0 → (pw_I w 1 14) ≤ x1 → px_W E mX9_lies (d + 1) 0 0 21 [.null, .null] [] w Q)
    (k3 : ¬ x1 < 0 → ¬ (pw_I w 1 14) ≤ x1 → px_W E mX9_lies (d + 1) 0 0 12 [.ref 1, .int x1] [] w Q) :
    px_Call E (d + 1) 0 0 mX9_lies [.ref 1, .int x1] w Q :=
  px_enter (k := 0) (by decide) (Nat.le_of_ble_eq_true rfl) rfl (px_forget (bX9_lies_0 hw k1 k2 k3) ⟨Or.inr rfl, Or.inr rfl, trivial⟩)
theorem bX9_lies_12 {E : px_E} {d : Nat} {w : pw_W} {Q : Option Value → pw_W → Prop} {t : ct_T} (hw : w.1 = cs t) {x1 : Int32}  (j1 : Nat) (hj1 : x1 = nI j1) (hl1 : j1 < 6)
    (k1 : px_W E mX9_lies (d + 1) 0 0 23 [.null, .null] [.int (pw_I w 60 j1)] w Q) :
    px_W E mX9_lies (d + 1) 0 0 12 [.ref 1, .int x1] [] w Q := by
  refine px_aload_n dX9_lies_12 rfl rfl ?_
  refine px_getR (v := 60) dX9_lies_13 fr_9_79 rfl (px_sh1 hw sh_1) (px_rf hw rf_1_13) (by decide) ?_
  refine px_iload_n dX9_lies_16 rfl rfl ?_
  refine px_iald dX9_lies_17 (px_sh2 hw sh_60) (by decide) j1 hj1 hl1 ?_
  refine px_goto (tgt := 23) dX9_lies_18 (by decide) ?_
  exact px_forget k1 ⟨Or.inl rfl, Or.inl rfl, trivial⟩
theorem bX9_lies_21 {E : px_E} {d : Nat} {w : pw_W} {Q : Option Value → pw_W → Prop} {t : ct_T} (hw : w.1 = cs t)  
    (k1 : px_W E mX9_lies (d + 1) 0 0 23 [.null, .null] [.int (-2)] w Q) :
    px_W E mX9_lies (d + 1) 0 0 21 [.null, .null] [] w Q := by
  refine px_bipush dX9_lies_21 bp_m2 ?_
  exact k1
theorem bX9_lies_23 {E : px_E} {d : Nat} {w : pw_W} {Q : Option Value → pw_W → Prop} {t : ct_T} (hw : w.1 = cs t) {y0 : Int32}  
    (k1 : Q (some (.int y0)) w) :
    px_W E mX9_lies (d + 1) 0 0 23 [.null, .null] [.int y0] w Q := by
  exact px_ireturn dX9_lies_23 rfl rfl k1
theorem dX9_seen_0 : decode mX9_seen.2.1 0 = .ok (.iload_n 1, 1) := by decide +kernel
theorem dX9_seen_1 : decode mX9_seen.2.1 1 = .ok (.bipush 14, 2) := by decide +kernel
theorem dX9_seen_3 : decode mX9_seen.2.1 3 = .ok (.invokestatic 199, 3) := by decide +kernel
theorem dX9_seen_6 : decode mX9_seen.2.1 6 = .ok (.ifCond .eq 20, 3) := by decide +kernel
theorem dX9_seen_9 : decode mX9_seen.2.1 9 = .ok (.aload_n 0, 1) := by decide +kernel
theorem dX9_seen_10 : decode mX9_seen.2.1 10 = .ok (.iload_n 2, 1) := by decide +kernel
theorem dX9_seen_11 : decode mX9_seen.2.1 11 = .ok (.invokevirtual 113, 3) := by decide +kernel
theorem dX9_seen_14 : decode mX9_seen.2.1 14 = .ok (.ifCond .eq 12, 3) := by decide +kernel
theorem dX9_seen_17 : decode mX9_seen.2.1 17 = .ok (.iload_n 3, 1) := by decide +kernel
theorem dX9_seen_18 : decode mX9_seen.2.1 18 = .ok (.bipush 99, 2) := by decide +kernel
theorem dX9_seen_20 : decode mX9_seen.2.1 20 = .ok (.invokestatic 199, 3) := by decide +kernel
theorem dX9_seen_23 : decode mX9_seen.2.1 23 = .ok (.ifCond .ne 5, 3) := by decide +kernel
theorem dX9_seen_26 : decode mX9_seen.2.1 26 = .ok (.iconst (-1), 1) := by decide +kernel
theorem dX9_seen_27 : decode mX9_seen.2.1 27 = .ok (.ireturn, 1) := by decide +kernel
theorem dX9_seen_28 : decode mX9_seen.2.1 28 = .ok (.aload_n 0, 1) := by decide +kernel
theorem dX9_seen_29 : decode mX9_seen.2.1 29 = .ok (.getfield 75, 3) := by decide +kernel
theorem dX9_seen_32 : decode mX9_seen.2.1 32 = .ok (.iload_n 1, 1) := by decide +kernel
theorem dX9_seen_33 : decode mX9_seen.2.1 33 = .ok (.iload_n 2, 1) := by decide +kernel
theorem dX9_seen_34 : decode mX9_seen.2.1 34 = .ok (.iload_n 3, 1) := by decide +kernel
theorem dX9_seen_35 : decode mX9_seen.2.1 35 = .ok (.iload 4, 2) := by decide +kernel
theorem dX9_seen_37 : decode mX9_seen.2.1 37 = .ok (.invokevirtual 299, 3) := by decide +kernel
theorem dX9_seen_40 : decode mX9_seen.2.1 40 = .ok (.ireturn, 1) := by decide +kernel
theorem bX9_seen_0 {E : px_E} {d : Nat} {w : pw_W} {Q : Option Value → pw_W → Prop} {t : ct_T} (hw : w.1 = cs t) {x1 x2 x3 x4 : Int32} (ht1 : is_Hamlet t.1) 
    (k1 : ¬ (pX9_isWithin x1 14) → px_W E mX9_seen (d + 2) 0 0 26 [.null, .null, .null, .null, .null] [] w Q)
    (k2 : (pX9_isWithin x1 14) → ¬ (pX9_isPerson w t x2) → px_W E mX9_seen (d + 2) 0 0 26 [.null, .null, .null, .null, .null] [] w Q)
    (k3 : (pX9_isWithin x1 14) → (pX9_isPerson w t x2) → (pX9_isWithin x3 99) → px_Call E (d + 1) 0 0 mX7_add [.ref 48, .int x1, .int x2, .int x3, .int x4] w (fun v w' => px_W E mX9_seen (d + 2) 0 0 40 [.null, .null, .null, .null, .null] (v.toList ++ []) w' Q))
    (k4 : (pX9_isWithin x1 14) → (pX9_isPerson w t x2) → ¬ (pX9_isWithin x3 99) → px_W E mX9_seen (d + 2) 0 0 26 [.null, .null, .null, .null, .null] [] w Q) :
    px_W E mX9_seen (d + 2) 0 0 0 [.ref 1, .int x1, .int x2, .int x3, .int x4] [] w Q := by
  refine px_iload_n dX9_seen_0 rfl rfl ?_
  refine px_bipush dX9_seen_1 bp_14 ?_
  refine px_callS (As := [.int x1, .int 14]) (st := []) (rc := 0) (rs := 0) (mc := 0) (ms := 0) dX9_seen_3 lk_9_199 rfl rfl (Nat.le_of_ble_eq_true rfl) (sX9_isWithin ?_)
  show px_W E mX9_seen (d + 2) 0 0 6 [.ref 1, .int x1, .int x2, .int x3, .int x4] [.int (jb (pX9_isWithin x1 14))] w Q
  refine px_jb_eq (tgt := 26) dX9_seen_6 (by decide) (fun h1 => ?_) (fun h1 => ?_)
  ·
    exact px_forget (k1 h1) ⟨Or.inl rfl, Or.inl rfl, Or.inl rfl, Or.inl rfl, Or.inl rfl, trivial⟩
  ·
    refine px_aload_n dX9_seen_9 rfl rfl ?_
    refine px_iload_n dX9_seen_10 rfl rfl ?_
    refine px_callV (As := [.int x2]) (st := []) (rc := 0) (rs := 0) (mc := 0) (ms := 0) dX9_seen_11 lk_9_113 (px_sh1 hw sh_1) rfl rfl (Nat.le_of_ble_eq_true rfl) (sX9_isPerson (w := w) hw ht1 ?_)
    show px_W E mX9_seen (d + 2) 0 0 14 [.ref 1, .int x1, .int x2, .int x3, .int x4] [.int (jb (pX9_isPerson w t x2))] w Q
    refine px_jb_eq (tgt := 26) dX9_seen_14 (by decide) (fun h2 => ?_) (fun h2 => ?_)
    ·
      exact px_forget (k2 h1 h2) ⟨Or.inl rfl, Or.inl rfl, Or.inl rfl, Or.inl rfl, Or.inl rfl, trivial⟩
    ·
      refine px_iload_n dX9_seen_17 rfl rfl ?_
      refine px_bipush dX9_seen_18 bp_99 ?_
      refine px_callS (As := [.int x3, .int 99]) (st := []) (rc := 0) (rs := 0) (mc := 0) (ms := 0) dX9_seen_20 lk_9_199 rfl rfl (Nat.le_of_ble_eq_true rfl) (sX9_isWithin ?_)
      show px_W E mX9_seen (d + 2) 0 0 23 [.ref 1, .int x1, .int x2, .int x3, .int x4] [.int (jb (pX9_isWithin x3 99))] w Q
      refine px_jb_ne (tgt := 28) dX9_seen_23 (by decide) (fun h3 => ?_) (fun h3 => ?_)
      ·
        refine px_aload_n dX9_seen_28 rfl rfl ?_
        refine px_getR (v := 48) dX9_seen_29 fr_9_75 rfl (px_sh1 hw sh_1) (px_rf hw rf_1_12) (by decide) ?_
        refine px_iload_n dX9_seen_32 rfl rfl ?_
        refine px_iload_n dX9_seen_33 rfl rfl ?_
        refine px_iload_n dX9_seen_34 rfl rfl ?_
        refine px_iload dX9_seen_35 rfl ?_
        refine px_forget (ls' := [.null, .null, .null, .null, .null]) ?_ ⟨Or.inl rfl, Or.inl rfl, Or.inl rfl, Or.inl rfl, Or.inl rfl, trivial⟩
        exact px_callV (As := [.int x1, .int x2, .int x3, .int x4]) (st := []) (rc := 0) (rs := 0) (mc := 0) (ms := 0) dX9_seen_37 lk_9_299 (px_sh1 hw sh_48) rfl rfl (Nat.le_of_ble_eq_true rfl) (k3 h1 h2 h3)
      ·
        exact px_forget (k4 h1 h2 h3) ⟨Or.inl rfl, Or.inl rfl, Or.inl rfl, Or.inl rfl, Or.inl rfl, trivial⟩
theorem eX9_seen {E : px_E} {d : Nat} {w : pw_W} {Q : Option Value → pw_W → Prop} {t : ct_T} (hw : w.1 = cs t) {x1 x2 x3 x4 : Int32} (ht1 : is_Hamlet t.1) 
    (k1 : ¬ (pX9_isWithin x1 14) → px_W E mX9_seen (d + 2) 0 0 26 [.null, .null, .null, .null, .null] [] w Q)
    (k2 : (pX9_isWithin x1 14) → ¬ (pX9_isPerson w t x2) → px_W E mX9_seen (d + 2) 0 0 26 [.null, .null, .null, .null, .null] [] w Q)
    (k3 : (pX9_isWithin x1 14) → (pX9_isPerson w t x2) → (pX9_isWithin x3 99) → px_Call E (d + 1) 0 0 mX7_add [.ref 48, .int x1, .int x2, .int x3, .int x4] w (fun v w' => px_W E mX9_seen (d + 2) 0 0 40 [.null, .null, .null, .null, .null] (v.toList ++ []) w' Q))
    (k4 : (pX9_isWithin x1 14) → (pX9_isPerson w t x2) → ¬ (pX9_isWithin x3 99) → px_W E mX9_seen (d + 2) 0 0 26 [.null, .null, .null, .null, .null] [] w Q) :
    px_Call E (d + 2) 0 0 mX9_seen [.ref 1, .int x1, .int x2, .int x3, .int x4] w Q :=
  px_enter (k := 0) (by decide) (Nat.le_of_ble_eq_true rfl) rfl (px_forget (bX9_seen_0 hw ht1 k1 k2 k3 k4) ⟨Or.inr rfl, Or.inr rfl, Or.inr rfl, Or.inr rfl, Or.inr rfl, trivial⟩)
theorem bX9_seen_26 {E : px_E} {d : Nat} {w : pw_W} {Q : Option Value → pw_W → Prop} {t : ct_T} (hw : w.1 = cs t) (ht1 : is_Hamlet t.1) 
    (k1 : Q (some (.int (-1))) w) :
    px_W E mX9_seen (d + 2) 0 0 26 [.null, .null, .null, .null, .null] [] w Q := by
  refine px_iconst dX9_seen_26 ic_m1 ?_
  exact px_ireturn dX9_seen_27 rfl rfl k1
theorem bX9_seen_40 {E : px_E} {d : Nat} {w : pw_W} {Q : Option Value → pw_W → Prop} {t : ct_T} (hw : w.1 = cs t) {y0 : Int32} (ht1 : is_Hamlet t.1) 
    (k1 : Q (some (.int y0)) w) :
    px_W E mX9_seen (d + 2) 0 0 40 [.null, .null, .null, .null, .null] [.int y0] w Q := by
  exact px_ireturn dX9_seen_40 rfl rfl k1
theorem dX9_untell_0 : decode mX9_untell.2.1 0 = .ok (.aload_n 0, 1) := by decide +kernel
theorem dX9_untell_1 : decode mX9_untell.2.1 1 = .ok (.getfield 75, 3) := by decide +kernel
theorem dX9_untell_4 : decode mX9_untell.2.1 4 = .ok (.iload_n 1, 1) := by decide +kernel
theorem dX9_untell_5 : decode mX9_untell.2.1 5 = .ok (.invokevirtual 303, 3) := by decide +kernel
theorem dX9_untell_8 : decode mX9_untell.2.1 8 = .ok (.ireturn, 1) := by decide +kernel
theorem bX9_untell_0 {E : px_E} {d : Nat} {w : pw_W} {Q : Option Value → pw_W → Prop} {t : ct_T} (hw : w.1 = cs t) {x1 : Int32}  
    (k1 : px_Call E d 0 0 mX7_withdraw [.ref 48, .int x1] w (fun v w' => px_W E mX9_untell (d + 1) 0 0 8 [.null, .null] (v.toList ++ []) w' Q)) :
    px_W E mX9_untell (d + 1) 0 0 0 [.ref 1, .int x1] [] w Q := by
  refine px_aload_n dX9_untell_0 rfl rfl ?_
  refine px_getR (v := 48) dX9_untell_1 fr_9_75 rfl (px_sh1 hw sh_1) (px_rf hw rf_1_12) (by decide) ?_
  refine px_iload_n dX9_untell_4 rfl rfl ?_
  refine px_forget (ls' := [.null, .null]) ?_ ⟨Or.inl rfl, Or.inl rfl, trivial⟩
  exact px_callV (As := [.int x1]) (st := []) (rc := 0) (rs := 0) (mc := 0) (ms := 0) dX9_untell_5 lk_9_303 (px_sh1 hw sh_48) rfl rfl (Nat.le_of_ble_eq_true rfl) k1
theorem eX9_untell {E : px_E} {d : Nat} {w : pw_W} {Q : Option Value → pw_W → Prop} {t : ct_T} (hw : w.1 = cs t) {x1 : Int32}  
    (k1 : px_Call E d 0 0 mX7_withdraw [.ref 48, .int x1] w (fun v w' => px_W E mX9_untell (d + 1) 0 0 8 [.null, .null] (v.toList ++ []) w' Q)) :
    px_Call E (d + 1) 0 0 mX9_untell [.ref 1, .int x1] w Q :=
  px_enter (k := 0) (by decide) (Nat.le_of_ble_eq_true rfl) rfl (px_forget (bX9_untell_0 hw k1) ⟨Or.inr rfl, Or.inr rfl, trivial⟩)
theorem bX9_untell_8 {E : px_E} {d : Nat} {w : pw_W} {Q : Option Value → pw_W → Prop} {t : ct_T} (hw : w.1 = cs t) {y0 : Int32}  (hb1 : y0 = 0 ∨ y0 = 1)
    (k1 : Q (some (.int y0)) w) :
    px_W E mX9_untell (d + 1) 0 0 8 [.null, .null] [.int y0] w Q := by
  exact px_ireturn dX9_untell_8 rfl (px_nb (hb1)) k1
theorem dX9_later_0 : decode mX9_later.2.1 0 = .ok (.aload_n 0, 1) := by decide +kernel
theorem dX9_later_1 : decode mX9_later.2.1 1 = .ok (.getfield 75, 3) := by decide +kernel
theorem dX9_later_4 : decode mX9_later.2.1 4 = .ok (.iload_n 1, 1) := by decide +kernel
theorem dX9_later_5 : decode mX9_later.2.1 5 = .ok (.invokevirtual 306, 3) := by decide +kernel
theorem dX9_later_8 : decode mX9_later.2.1 8 = .ok (.ireturn, 1) := by decide +kernel
theorem bX9_later_0 {E : px_E} {d : Nat} {w : pw_W} {Q : Option Value → pw_W → Prop} {t : ct_T} (hw : w.1 = cs t) {x1 : Int32}  
    (k1 : px_Call E d 0 0 mX7_passTime [.ref 48, .int x1] w (fun v w' => px_W E mX9_later (d + 1) 0 0 8 [.null, .null] (v.toList ++ []) w' Q)) :
    px_W E mX9_later (d + 1) 0 0 0 [.ref 1, .int x1] [] w Q := by
  refine px_aload_n dX9_later_0 rfl rfl ?_
  refine px_getR (v := 48) dX9_later_1 fr_9_75 rfl (px_sh1 hw sh_1) (px_rf hw rf_1_12) (by decide) ?_
  refine px_iload_n dX9_later_4 rfl rfl ?_
  refine px_forget (ls' := [.null, .null]) ?_ ⟨Or.inl rfl, Or.inl rfl, trivial⟩
  exact px_callV (As := [.int x1]) (st := []) (rc := 0) (rs := 0) (mc := 0) (ms := 0) dX9_later_5 lk_9_306 (px_sh1 hw sh_48) rfl rfl (Nat.le_of_ble_eq_true rfl) k1
theorem eX9_later {E : px_E} {d : Nat} {w : pw_W} {Q : Option Value → pw_W → Prop} {t : ct_T} (hw : w.1 = cs t) {x1 : Int32}  
    (k1 : px_Call E d 0 0 mX7_passTime [.ref 48, .int x1] w (fun v w' => px_W E mX9_later (d + 1) 0 0 8 [.null, .null] (v.toList ++ []) w' Q)) :
    px_Call E (d + 1) 0 0 mX9_later [.ref 1, .int x1] w Q :=
  px_enter (k := 0) (by decide) (Nat.le_of_ble_eq_true rfl) rfl (px_forget (bX9_later_0 hw k1) ⟨Or.inr rfl, Or.inr rfl, trivial⟩)
theorem bX9_later_8 {E : px_E} {d : Nat} {w : pw_W} {Q : Option Value → pw_W → Prop} {t : ct_T} (hw : w.1 = cs t) {y0 : Int32}  
    (k1 : Q (some (.int y0)) w) :
    px_W E mX9_later (d + 1) 0 0 8 [.null, .null] [.int y0] w Q := by
  exact px_ireturn dX9_later_8 rfl rfl k1
theorem dX9_fits_0 : decode mX9_fits.2.1 0 = .ok (.aload_n 0, 1) := by decide +kernel
theorem dX9_fits_1 : decode mX9_fits.2.1 1 = .ok (.getfield 75, 3) := by decide +kernel
theorem dX9_fits_4 : decode mX9_fits.2.1 4 = .ok (.aload_n 0, 1) := by decide +kernel
theorem dX9_fits_5 : decode mX9_fits.2.1 5 = .ok (.getfield 20, 3) := by decide +kernel
theorem dX9_fits_8 : decode mX9_fits.2.1 8 = .ok (.iload_n 1, 1) := by decide +kernel
theorem dX9_fits_9 : decode mX9_fits.2.1 9 = .ok (.invokevirtual 309, 3) := by decide +kernel
theorem dX9_fits_12 : decode mX9_fits.2.1 12 = .ok (.invokestatic 221, 3) := by decide +kernel
theorem dX9_fits_15 : decode mX9_fits.2.1 15 = .ok (.ireturn, 1) := by decide +kernel
theorem bX9_fits_0 {E : px_E} {d : Nat} {w : pw_W} {Q : Option Value → pw_W → Prop} {t : ct_T} (hw : w.1 = cs t) {x1 : Int32} (ht1 : is_Hamlet t.1) 
    (k1 : px_Call E (d + 1) 0 0 mX7_fitting [.ref 48, .ref t.1, .int x1] w (fun v w' => px_W E mX9_fits (d + 2) 0 0 12 [.null, .null] (v.toList ++ []) w' Q)) :
    px_W E mX9_fits (d + 2) 0 0 0 [.ref 1, .int x1] [] w Q := by
  refine px_aload_n dX9_fits_0 rfl rfl ?_
  refine px_getR (v := 48) dX9_fits_1 fr_9_75 rfl (px_sh1 hw sh_1) (px_rf hw rf_1_12) (by decide) ?_
  refine px_aload_n dX9_fits_4 rfl rfl ?_
  refine px_getR (v := t.1) dX9_fits_5 fr_9_20 rfl (px_sh1 hw sh_1) (px_rf hw rf_1_2) ht1.ne ?_
  refine px_iload_n dX9_fits_8 rfl rfl ?_
  refine px_forget (ls' := [.null, .null]) ?_ ⟨Or.inl rfl, Or.inl rfl, trivial⟩
  exact px_callV (As := [.ref t.1, .int x1]) (st := []) (rc := 0) (rs := 0) (mc := 0) (ms := 0) dX9_fits_9 lk_9_309 (px_sh1 hw sh_48) rfl rfl (Nat.le_of_ble_eq_true rfl) k1
theorem eX9_fits {E : px_E} {d : Nat} {w : pw_W} {Q : Option Value → pw_W → Prop} {t : ct_T} (hw : w.1 = cs t) {x1 : Int32} (ht1 : is_Hamlet t.1) 
    (k1 : px_Call E (d + 1) 0 0 mX7_fitting [.ref 48, .ref t.1, .int x1] w (fun v w' => px_W E mX9_fits (d + 2) 0 0 12 [.null, .null] (v.toList ++ []) w' Q)) :
    px_Call E (d + 2) 0 0 mX9_fits [.ref 1, .int x1] w Q :=
  px_enter (k := 0) (by decide) (Nat.le_of_ble_eq_true rfl) rfl (px_forget (bX9_fits_0 hw ht1 k1) ⟨Or.inr rfl, Or.inr rfl, trivial⟩)
theorem bX9_fits_12 {E : px_E} {d : Nat} {w : pw_W} {Q : Option Value → pw_W → Prop} {t : ct_T} (hw : w.1 = cs t) {y0 : Int32} (ht1 : is_Hamlet t.1) 
    (k1 : Q (some (.int (hJ6_bitCount_0f7a4 y0))) w) :
    px_W E mX9_fits (d + 2) 0 0 12 [.null, .null] [.int y0] w Q := by
  refine px_callS (As := [.int y0]) (st := []) (rc := 0) (rs := 0) (mc := 0) (ms := 0) dX9_fits_12 lk_9_221 rfl rfl (Nat.le_of_ble_eq_true rfl) (sJ6_bitCount_0f7a4 ?_)
  show px_W E mX9_fits (d + 2) 0 0 15 [.null, .null] [.int (hJ6_bitCount_0f7a4 y0)] w Q
  exact px_ireturn dX9_fits_15 rfl rfl k1
theorem dX9_sure_0 : decode mX9_sure.2.1 0 = .ok (.iload_n 1, 1) := by decide +kernel
theorem dX9_sure_1 : decode mX9_sure.2.1 1 = .ok (.invokestatic 157, 3) := by decide +kernel
theorem dX9_sure_4 : decode mX9_sure.2.1 4 = .ok (.ifCond .ne 5, 3) := by decide +kernel
theorem dX9_sure_7 : decode mX9_sure.2.1 7 = .ok (.iconst (-1), 1) := by decide +kernel
theorem dX9_sure_8 : decode mX9_sure.2.1 8 = .ok (.ireturn, 1) := by decide +kernel
theorem dX9_sure_9 : decode mX9_sure.2.1 9 = .ok (.aload_n 0, 1) := by decide +kernel
theorem dX9_sure_10 : decode mX9_sure.2.1 10 = .ok (.getfield 75, 3) := by decide +kernel
theorem dX9_sure_13 : decode mX9_sure.2.1 13 = .ok (.aload_n 0, 1) := by decide +kernel
theorem dX9_sure_14 : decode mX9_sure.2.1 14 = .ok (.getfield 20, 3) := by decide +kernel
theorem dX9_sure_17 : decode mX9_sure.2.1 17 = .ok (.iload_n 2, 1) := by decide +kernel
theorem dX9_sure_18 : decode mX9_sure.2.1 18 = .ok (.invokevirtual 309, 3) := by decide +kernel
theorem dX9_sure_21 : decode mX9_sure.2.1 21 = .ok (.istore_n 3, 1) := by decide +kernel
theorem dX9_sure_22 : decode mX9_sure.2.1 22 = .ok (.iconst (-1), 1) := by decide +kernel
theorem dX9_sure_23 : decode mX9_sure.2.1 23 = .ok (.istore 4, 2) := by decide +kernel
theorem dX9_sure_25 : decode mX9_sure.2.1 25 = .ok (.iconst 0, 1) := by decide +kernel
theorem dX9_sure_26 : decode mX9_sure.2.1 26 = .ok (.istore 5, 2) := by decide +kernel
theorem dX9_sure_28 : decode mX9_sure.2.1 28 = .ok (.iload 5, 2) := by decide +kernel
theorem dX9_sure_30 : decode mX9_sure.2.1 30 = .ok (.bipush 30, 2) := by decide +kernel
theorem dX9_sure_32 : decode mX9_sure.2.1 32 = .ok (.if_icmp .gt 46, 3) := by decide +kernel
theorem dX9_sure_35 : decode mX9_sure.2.1 35 = .ok (.iload_n 3, 1) := by decide +kernel
theorem dX9_sure_36 : decode mX9_sure.2.1 36 = .ok (.iload 5, 2) := by decide +kernel
theorem dX9_sure_38 : decode mX9_sure.2.1 38 = .ok (.ishr, 1) := by decide +kernel
theorem dX9_sure_39 : decode mX9_sure.2.1 39 = .ok (.iconst 1, 1) := by decide +kernel
theorem dX9_sure_40 : decode mX9_sure.2.1 40 = .ok (.iand, 1) := by decide +kernel
theorem dX9_sure_41 : decode mX9_sure.2.1 41 = .ok (.iconst 1, 1) := by decide +kernel
theorem dX9_sure_42 : decode mX9_sure.2.1 42 = .ok (.if_icmp .ne 7, 3) := by decide +kernel
theorem dX9_sure_45 : decode mX9_sure.2.1 45 = .ok (.iconst 1, 1) := by decide +kernel
theorem dX9_sure_46 : decode mX9_sure.2.1 46 = .ok (.goto 4, 3) := by decide +kernel
theorem dX9_sure_49 : decode mX9_sure.2.1 49 = .ok (.iconst 0, 1) := by decide +kernel
theorem dX9_sure_50 : decode mX9_sure.2.1 50 = .ok (.istore 6, 2) := by decide +kernel
theorem dX9_sure_52 : decode mX9_sure.2.1 52 = .ok (.iload 6, 2) := by decide +kernel
theorem dX9_sure_54 : decode mX9_sure.2.1 54 = .ok (.ifCond .eq 18, 3) := by decide +kernel
theorem dX9_sure_57 : decode mX9_sure.2.1 57 = .ok (.iload_n 1, 1) := by decide +kernel
theorem dX9_sure_58 : decode mX9_sure.2.1 58 = .ok (.iconst 1, 1) := by decide +kernel
theorem dX9_sure_59 : decode mX9_sure.2.1 59 = .ok (.if_icmp .eq 9, 3) := by decide +kernel
theorem dX9_sure_62 : decode mX9_sure.2.1 62 = .ok (.iload 4, 2) := by decide +kernel
theorem dX9_sure_64 : decode mX9_sure.2.1 64 = .ok (.iconst (-1), 1) := by decide +kernel
theorem dX9_sure_65 : decode mX9_sure.2.1 65 = .ok (.if_icmp .ne 7, 3) := by decide +kernel
theorem dX9_sure_68 : decode mX9_sure.2.1 68 = .ok (.iload 5, 2) := by decide +kernel
theorem dX9_sure_70 : decode mX9_sure.2.1 70 = .ok (.istore 4, 2) := by decide +kernel
theorem dX9_sure_72 : decode mX9_sure.2.1 72 = .ok (.iinc 5 1, 3) := by decide +kernel
theorem dX9_sure_75 : decode mX9_sure.2.1 75 = .ok (.goto (-47), 3) := by decide +kernel
theorem dX9_sure_78 : decode mX9_sure.2.1 78 = .ok (.iload 4, 2) := by decide +kernel
theorem dX9_sure_80 : decode mX9_sure.2.1 80 = .ok (.ireturn, 1) := by decide +kernel
theorem bX9_sure_0 {E : px_E} {d : Nat} {w : pw_W} {Q : Option Value → pw_W → Prop} {t : ct_T} (hw : w.1 = cs t) {x1 x2 : Int32} (ht1 : is_Hamlet t.1) 
    (k1 : (pX9_isZeroOrOne x1) → px_Call E (d + 1) 0 0 mX7_fitting [.ref 48, .ref t.1, .int x2] w (fun v w' => px_W E mX9_sure (d + 2) 0 0 21 [.null, .int x1, .null, .null, .null, .null, .null] (v.toList ++ []) w' Q))
    (k2 : ¬ (pX9_isZeroOrOne x1) → Q (some (.int (-1))) w) :
    px_W E mX9_sure (d + 2) 0 0 0 [.ref 1, .int x1, .int x2, .null, .null, .null, .null] [] w Q := by
  refine px_iload_n dX9_sure_0 rfl rfl ?_
  refine px_callS (As := [.int x1]) (st := []) (rc := 0) (rs := 0) (mc := 0) (ms := 0) dX9_sure_1 lk_9_157 rfl rfl (Nat.le_of_ble_eq_true rfl) (sX9_isZeroOrOne ?_)
  show px_W E mX9_sure (d + 2) 0 0 4 [.ref 1, .int x1, .int x2, .null, .null, .null, .null] [.int (jb (pX9_isZeroOrOne x1))] w Q
  refine px_jb_ne (tgt := 9) dX9_sure_4 (by decide) (fun h1 => ?_) (fun h1 => ?_)
  ·
    refine px_aload_n dX9_sure_9 rfl rfl ?_
    refine px_getR (v := 48) dX9_sure_10 fr_9_75 rfl (px_sh1 hw sh_1) (px_rf hw rf_1_12) (by decide) ?_
    refine px_aload_n dX9_sure_13 rfl rfl ?_
    refine px_getR (v := t.1) dX9_sure_14 fr_9_20 rfl (px_sh1 hw sh_1) (px_rf hw rf_1_2) ht1.ne ?_
    refine px_iload_n dX9_sure_17 rfl rfl ?_
    refine px_forget (ls' := [.null, .int x1, .null, .null, .null, .null, .null]) ?_ ⟨Or.inl rfl, Or.inr rfl, Or.inl rfl, Or.inl rfl, Or.inl rfl, Or.inl rfl, Or.inl rfl, trivial⟩
    exact px_callV (As := [.ref t.1, .int x2]) (st := []) (rc := 0) (rs := 0) (mc := 0) (ms := 0) dX9_sure_18 lk_9_309 (px_sh1 hw sh_48) rfl rfl (Nat.le_of_ble_eq_true rfl) (k1 h1)
  ·
    refine px_iconst dX9_sure_7 ic_m1 ?_
    exact px_ireturn dX9_sure_8 rfl rfl (k2 h1)
theorem eX9_sure {E : px_E} {d : Nat} {w : pw_W} {Q : Option Value → pw_W → Prop} {t : ct_T} (hw : w.1 = cs t) {x1 x2 : Int32} (ht1 : is_Hamlet t.1) 
    (k1 : (pX9_isZeroOrOne x1) → px_Call E (d + 1) 0 0 mX7_fitting [.ref 48, .ref t.1, .int x2] w (fun v w' => px_W E mX9_sure (d + 2) 0 0 21 [.null, .int x1, .null, .null, .null, .null, .null] (v.toList ++ []) w' Q))
    (k2 : ¬ (pX9_isZeroOrOne x1) → Q (some (.int (-1))) w) :
    px_Call E (d + 2) 0 0 mX9_sure [.ref 1, .int x1, .int x2] w Q :=
  px_enter (k := 4) (by decide) (Nat.le_of_ble_eq_true rfl) rfl (px_forget (bX9_sure_0 hw ht1 k1 k2) ⟨Or.inr rfl, Or.inr rfl, Or.inr rfl, Or.inl rfl, Or.inl rfl, Or.inl rfl, Or.inl rfl, trivial⟩)
theorem bX9_sure_21 {E : px_E} {d : Nat} {w : pw_W} {Q : Option Value → pw_W → Prop} {t : ct_T} (hw : w.1 = cs t) {x1 y0 : Int32} (ht1 : is_Hamlet t.1) 
    (k1 : px_W E mX9_sure (d + 2) 0 0 28 [.null, .int x1, .null, .int y0, .int (-1), .int 0, .null] [] w Q) :
    px_W E mX9_sure (d + 2) 0 0 21 [.null, .int x1, .null, .null, .null, .null, .null] [.int y0] w Q := by
  refine px_istore_n (ls' := [.null, .int x1, .null, .int y0, .null, .null, .null]) dX9_sure_21 rfl ⟨by decide, rfl⟩ rfl ?_
  refine px_iconst dX9_sure_22 ic_m1 ?_
  refine px_istore (ls' := [.null, .int x1, .null, .int y0, .int (-1), .null, .null]) dX9_sure_23 ⟨by decide, rfl⟩ rfl ?_
  refine px_iconst dX9_sure_25 ic_0 ?_
  refine px_istore (ls' := [.null, .int x1, .null, .int y0, .int (-1), .int 0, .null]) dX9_sure_26 ⟨by decide, rfl⟩ rfl ?_
  exact k1
theorem bX9_sure_28 {E : px_E} {d : Nat} {w : pw_W} {Q : Option Value → pw_W → Prop} {t : ct_T} (hw : w.1 = cs t) {x1 x3 x4 x5 : Int32} (ht1 : is_Hamlet t.1) 
    (k1 : 30 < x5 → Q (some (.int x4)) w)
    (k2 : ¬ 30 < x5 → ¬ ((js_shr x3 x5) &&& 1) = 1 → px_W E mX9_sure (d + 2) 0 0 50 [.null, .int x1, .null, .int x3, .int x4, .int x5, .null] [.int 0] w Q)
    (k3 : ¬ 30 < x5 → ((js_shr x3 x5) &&& 1) = 1 → px_W E mX9_sure (d + 2) 0 0 50 [.null, .int x1, .null, .int x3, .int x4, .int x5, .null] [.int 1] w Q) :
    px_W E mX9_sure (d + 2) 0 0 28 [.null, .int x1, .null, .int x3, .int x4, .int x5, .null] [] w Q := by
  refine px_iload dX9_sure_28 rfl ?_
  refine px_bipush dX9_sure_30 bp_30 ?_
  refine px_icmp_gt (tgt := 78) dX9_sure_32 (by decide) (fun h1 => ?_) (fun h1 => ?_)
  ·
    refine px_iload dX9_sure_78 rfl ?_
    exact px_ireturn dX9_sure_80 rfl rfl (k1 h1)
  ·
    refine px_iload_n dX9_sure_35 rfl rfl ?_
    refine px_iload dX9_sure_36 rfl ?_
    refine px_ishr dX9_sure_38 ?_
    refine px_iconst dX9_sure_39 ic_1 ?_
    refine px_iand dX9_sure_40 ?_
    refine px_iconst dX9_sure_41 ic_1 ?_
    refine px_icmp_ne (tgt := 49) dX9_sure_42 (by decide) (fun h2 => ?_) (fun h2 => ?_)
    ·
      refine px_iconst dX9_sure_49 ic_0 ?_
      exact (k2 h1 h2)
    ·
      refine px_iconst dX9_sure_45 ic_1 ?_
      refine px_goto (tgt := 50) dX9_sure_46 (by decide) ?_
      exact (k3 h1 h2)
theorem bX9_sure_50 {E : px_E} {d : Nat} {w : pw_W} {Q : Option Value → pw_W → Prop} {t : ct_T} (hw : w.1 = cs t) {x1 x3 x4 x5 y0 : Int32} (ht1 : is_Hamlet t.1) 
    (k1 : y0 = 0 → px_W E mX9_sure (d + 2) 0 0 72 [.null, .int x1, .null, .int x3, .int x4, .int x5, .null] [] w Q)
    (k2 : ¬ y0 = 0 → x1 = 1 → px_W E mX9_sure (d + 2) 0 0 68 [.null, .int x1, .null, .int x3, .null, .int x5, .null] [] w Q)
    (k3 : ¬ y0 = 0 → ¬ x1 = 1 → ¬ x4 = (-1) → px_W E mX9_sure (d + 2) 0 0 72 [.null, .int x1, .null, .int x3, .int x4, .int x5, .null] [] w Q)
    (k4 : ¬ y0 = 0 → ¬ x1 = 1 → x4 = (-1) → px_W E mX9_sure (d + 2) 0 0 68 [.null, .int x1, .null, .int x3, .null, .int x5, .null] [] w Q) :
    px_W E mX9_sure (d + 2) 0 0 50 [.null, .int x1, .null, .int x3, .int x4, .int x5, .null] [.int y0] w Q := by
  refine px_istore (ls' := [.null, .int x1, .null, .int x3, .int x4, .int x5, .int y0]) dX9_sure_50 ⟨by decide, rfl⟩ rfl ?_
  refine px_iload dX9_sure_52 rfl ?_
  refine px_if_eq (tgt := 72) dX9_sure_54 (by decide) (fun h1 => ?_) (fun h1 => ?_)
  ·
    exact px_forget (k1 h1) ⟨Or.inl rfl, Or.inr rfl, Or.inl rfl, Or.inr rfl, Or.inr rfl, Or.inr rfl, Or.inl rfl, trivial⟩
  ·
    refine px_iload_n dX9_sure_57 rfl rfl ?_
    refine px_iconst dX9_sure_58 ic_1 ?_
    refine px_icmp_eq (tgt := 68) dX9_sure_59 (by decide) (fun h2 => ?_) (fun h2 => ?_)
    ·
      exact px_forget (k2 h1 h2) ⟨Or.inl rfl, Or.inr rfl, Or.inl rfl, Or.inr rfl, Or.inl rfl, Or.inr rfl, Or.inl rfl, trivial⟩
    ·
      refine px_iload dX9_sure_62 rfl ?_
      refine px_iconst dX9_sure_64 ic_m1 ?_
      refine px_icmp_ne (tgt := 72) dX9_sure_65 (by decide) (fun h3 => ?_) (fun h3 => ?_)
      ·
        exact px_forget (k3 h1 h2 h3) ⟨Or.inl rfl, Or.inr rfl, Or.inl rfl, Or.inr rfl, Or.inr rfl, Or.inr rfl, Or.inl rfl, trivial⟩
      ·
        exact px_forget (k4 h1 h2 h3) ⟨Or.inl rfl, Or.inr rfl, Or.inl rfl, Or.inr rfl, Or.inl rfl, Or.inr rfl, Or.inl rfl, trivial⟩
theorem bX9_sure_68 {E : px_E} {d : Nat} {w : pw_W} {Q : Option Value → pw_W → Prop} {t : ct_T} (hw : w.1 = cs t) {x1 x3 x5 : Int32} (ht1 : is_Hamlet t.1) 
    (k1 : px_W E mX9_sure (d + 2) 0 0 72 [.null, .int x1, .null, .int x3, .int x5, .int x5, .null] [] w Q) :
    px_W E mX9_sure (d + 2) 0 0 68 [.null, .int x1, .null, .int x3, .null, .int x5, .null] [] w Q := by
  refine px_iload dX9_sure_68 rfl ?_
  refine px_istore (ls' := [.null, .int x1, .null, .int x3, .int x5, .int x5, .null]) dX9_sure_70 ⟨by decide, rfl⟩ rfl ?_
  exact k1
theorem bX9_sure_72 {E : px_E} {d : Nat} {w : pw_W} {Q : Option Value → pw_W → Prop} {t : ct_T} (hw : w.1 = cs t) {x1 x3 x4 x5 : Int32} (ht1 : is_Hamlet t.1) 
    (k1 : px_W E mX9_sure (d + 2) 0 0 28 [.null, .int x1, .null, .int x3, .int x4, .int (x5 + 1), .null] [] w Q) :
    px_W E mX9_sure (d + 2) 0 0 72 [.null, .int x1, .null, .int x3, .int x4, .int x5, .null] [] w Q := by
  refine px_iinc (ls' := [.null, .int x1, .null, .int x3, .int x4, .int (x5 + 1), .null]) dX9_sure_72 ⟨by decide, rfl⟩ rfl rfl rfl ?_
  refine px_goto (tgt := 28) dX9_sure_75 (by decide) ?_
  exact k1
theorem dX9_ask_0 : decode mX9_ask.2.1 0 = .ok (.iload_n 1, 1) := by decide +kernel
theorem dX9_ask_1 : decode mX9_ask.2.1 1 = .ok (.bipush 14, 2) := by decide +kernel
theorem dX9_ask_3 : decode mX9_ask.2.1 3 = .ok (.invokestatic 199, 3) := by decide +kernel
theorem dX9_ask_6 : decode mX9_ask.2.1 6 = .ok (.ifCond .eq 10, 3) := by decide +kernel
theorem dX9_ask_9 : decode mX9_ask.2.1 9 = .ok (.iload_n 2, 1) := by decide +kernel
theorem dX9_ask_10 : decode mX9_ask.2.1 10 = .ok (.invokestatic 157, 3) := by decide +kernel
theorem dX9_ask_13 : decode mX9_ask.2.1 13 = .ok (.ifCond .ne 5, 3) := by decide +kernel
theorem dX9_ask_16 : decode mX9_ask.2.1 16 = .ok (.iconst (-1), 1) := by decide +kernel
theorem dX9_ask_17 : decode mX9_ask.2.1 17 = .ok (.ireturn, 1) := by decide +kernel
theorem dX9_ask_18 : decode mX9_ask.2.1 18 = .ok (.aload_n 0, 1) := by decide +kernel
theorem dX9_ask_19 : decode mX9_ask.2.1 19 = .ok (.getfield 75, 3) := by decide +kernel
theorem dX9_ask_22 : decode mX9_ask.2.1 22 = .ok (.aload_n 0, 1) := by decide +kernel
theorem dX9_ask_23 : decode mX9_ask.2.1 23 = .ok (.getfield 20, 3) := by decide +kernel
theorem dX9_ask_26 : decode mX9_ask.2.1 26 = .ok (.iload_n 3, 1) := by decide +kernel
theorem dX9_ask_27 : decode mX9_ask.2.1 27 = .ok (.invokevirtual 309, 3) := by decide +kernel
theorem dX9_ask_30 : decode mX9_ask.2.1 30 = .ok (.istore 4, 2) := by decide +kernel
theorem dX9_ask_32 : decode mX9_ask.2.1 32 = .ok (.iload 4, 2) := by decide +kernel
theorem dX9_ask_34 : decode mX9_ask.2.1 34 = .ok (.ifCond .ne 5, 3) := by decide +kernel
theorem dX9_ask_37 : decode mX9_ask.2.1 37 = .ok (.iconst (-1), 1) := by decide +kernel
theorem dX9_ask_38 : decode mX9_ask.2.1 38 = .ok (.ireturn, 1) := by decide +kernel
theorem dX9_ask_39 : decode mX9_ask.2.1 39 = .ok (.iconst (-1), 1) := by decide +kernel
theorem dX9_ask_40 : decode mX9_ask.2.1 40 = .ok (.istore 5, 2) := by decide +kernel
theorem dX9_ask_42 : decode mX9_ask.2.1 42 = .ok (.bipush 32, 2) := by decide +kernel
theorem dX9_ask_44 : decode mX9_ask.2.1 44 = .ok (.istore 6, 2) := by decide +kernel
theorem dX9_ask_46 : decode mX9_ask.2.1 46 = .ok (.iconst 0, 1) := by decide +kernel
theorem dX9_ask_47 : decode mX9_ask.2.1 47 = .ok (.istore 7, 2) := by decide +kernel
theorem dX9_ask_49 : decode mX9_ask.2.1 49 = .ok (.iload 7, 2) := by decide +kernel
theorem dX9_ask_51 : decode mX9_ask.2.1 51 = .ok (.aload_n 0, 1) := by decide +kernel
theorem dX9_ask_52 : decode mX9_ask.2.1 52 = .ok (.getfield 20, 3) := by decide +kernel
theorem dX9_ask_55 : decode mX9_ask.2.1 55 = .ok (.getfield 110, 3) := by decide +kernel
theorem dX9_ask_58 : decode mX9_ask.2.1 58 = .ok (.if_icmp .ge 38, 3) := by decide +kernel
theorem dX9_ask_61 : decode mX9_ask.2.1 61 = .ok (.aload_n 0, 1) := by decide +kernel
theorem dX9_ask_62 : decode mX9_ask.2.1 62 = .ok (.getfield 75, 3) := by decide +kernel
theorem dX9_ask_65 : decode mX9_ask.2.1 65 = .ok (.iload 4, 2) := by decide +kernel
theorem dX9_ask_67 : decode mX9_ask.2.1 67 = .ok (.iload_n 1, 1) := by decide +kernel
theorem dX9_ask_68 : decode mX9_ask.2.1 68 = .ok (.iload 7, 2) := by decide +kernel
theorem dX9_ask_70 : decode mX9_ask.2.1 70 = .ok (.invokevirtual 313, 3) := by decide +kernel
theorem dX9_ask_73 : decode mX9_ask.2.1 73 = .ok (.istore 8, 2) := by decide +kernel
theorem dX9_ask_75 : decode mX9_ask.2.1 75 = .ok (.iload 8, 2) := by decide +kernel
theorem dX9_ask_77 : decode mX9_ask.2.1 77 = .ok (.iload 6, 2) := by decide +kernel
theorem dX9_ask_79 : decode mX9_ask.2.1 79 = .ok (.if_icmp .ge 11, 3) := by decide +kernel
theorem dX9_ask_82 : decode mX9_ask.2.1 82 = .ok (.iload 7, 2) := by decide +kernel
theorem dX9_ask_84 : decode mX9_ask.2.1 84 = .ok (.istore 5, 2) := by decide +kernel
theorem dX9_ask_86 : decode mX9_ask.2.1 86 = .ok (.iload 8, 2) := by decide +kernel
theorem dX9_ask_88 : decode mX9_ask.2.1 88 = .ok (.istore 6, 2) := by decide +kernel
theorem dX9_ask_90 : decode mX9_ask.2.1 90 = .ok (.iinc 7 1, 3) := by decide +kernel
theorem dX9_ask_93 : decode mX9_ask.2.1 93 = .ok (.goto (-44), 3) := by decide +kernel
theorem dX9_ask_96 : decode mX9_ask.2.1 96 = .ok (.iload_n 2, 1) := by decide +kernel
theorem dX9_ask_97 : decode mX9_ask.2.1 97 = .ok (.ifCond .ne 8, 3) := by decide +kernel
theorem dX9_ask_100 : decode mX9_ask.2.1 100 = .ok (.iload 5, 2) := by decide +kernel
theorem dX9_ask_102 : decode mX9_ask.2.1 102 = .ok (.goto 5, 3) := by decide +kernel
theorem dX9_ask_105 : decode mX9_ask.2.1 105 = .ok (.iload 6, 2) := by decide +kernel
theorem dX9_ask_107 : decode mX9_ask.2.1 107 = .ok (.ireturn, 1) := by decide +kernel
theorem bX9_ask_0 {E : px_E} {d : Nat} {w : pw_W} {Q : Option Value → pw_W → Prop} {t : ct_T} (hw : w.1 = cs t) {x1 x2 x3 : Int32} (ht1 : is_Hamlet t.1) 
    (k1 : ¬ (pX9_isWithin x1 14) → px_W E mX9_ask (d + 2) 0 0 16 [.null, .null, .null, .null, .null, .null, .null, .null, .null] [] w Q)
    (k2 : (pX9_isWithin x1 14) → (pX9_isZeroOrOne x2) → px_Call E (d + 1) 0 0 mX7_fitting [.ref 48, .ref t.1, .int x3] w (fun v w' => px_W E mX9_ask (d + 2) 0 0 30 [.ref 1, .int x1, .int x2, .null, .null, .null, .null, .null, .null] (v.toList ++ []) w' Q))
    (k3 : (pX9_isWithin x1 14) → ¬ (pX9_isZeroOrOne x2) → px_W E mX9_ask (d + 2) 0 0 16 [.null, .null, .null, .null, .null, .null, .null, .null, .null] [] w Q) :
    px_W E mX9_ask (d + 2) 0 0 0 [.ref 1, .int x1, .int x2, .int x3, .null, .null, .null, .null, .null] [] w Q := by
  refine px_iload_n dX9_ask_0 rfl rfl ?_
  refine px_bipush dX9_ask_1 bp_14 ?_
  refine px_callS (As := [.int x1, .int 14]) (st := []) (rc := 0) (rs := 0) (mc := 0) (ms := 0) dX9_ask_3 lk_9_199 rfl rfl (Nat.le_of_ble_eq_true rfl) (sX9_isWithin ?_)
  show px_W E mX9_ask (d + 2) 0 0 6 [.ref 1, .int x1, .int x2, .int x3, .null, .null, .null, .null, .null] [.int (jb (pX9_isWithin x1 14))] w Q
  refine px_jb_eq (tgt := 16) dX9_ask_6 (by decide) (fun h1 => ?_) (fun h1 => ?_)
  ·
    exact px_forget (k1 h1) ⟨Or.inl rfl, Or.inl rfl, Or.inl rfl, Or.inl rfl, Or.inl rfl, Or.inl rfl, Or.inl rfl, Or.inl rfl, Or.inl rfl, trivial⟩
  ·
    refine px_iload_n dX9_ask_9 rfl rfl ?_
    refine px_callS (As := [.int x2]) (st := []) (rc := 0) (rs := 0) (mc := 0) (ms := 0) dX9_ask_10 lk_9_157 rfl rfl (Nat.le_of_ble_eq_true rfl) (sX9_isZeroOrOne ?_)
    show px_W E mX9_ask (d + 2) 0 0 13 [.ref 1, .int x1, .int x2, .int x3, .null, .null, .null, .null, .null] [.int (jb (pX9_isZeroOrOne x2))] w Q
    refine px_jb_ne (tgt := 18) dX9_ask_13 (by decide) (fun h2 => ?_) (fun h2 => ?_)
    ·
      refine px_aload_n dX9_ask_18 rfl rfl ?_
      refine px_getR (v := 48) dX9_ask_19 fr_9_75 rfl (px_sh1 hw sh_1) (px_rf hw rf_1_12) (by decide) ?_
      refine px_aload_n dX9_ask_22 rfl rfl ?_
      refine px_getR (v := t.1) dX9_ask_23 fr_9_20 rfl (px_sh1 hw sh_1) (px_rf hw rf_1_2) ht1.ne ?_
      refine px_iload_n dX9_ask_26 rfl rfl ?_
      refine px_forget (ls' := [.ref 1, .int x1, .int x2, .null, .null, .null, .null, .null, .null]) ?_ ⟨Or.inr rfl, Or.inr rfl, Or.inr rfl, Or.inl rfl, Or.inl rfl, Or.inl rfl, Or.inl rfl, Or.inl rfl, Or.inl rfl, trivial⟩
      exact px_callV (As := [.ref t.1, .int x3]) (st := []) (rc := 0) (rs := 0) (mc := 0) (ms := 0) dX9_ask_27 lk_9_309 (px_sh1 hw sh_48) rfl rfl (Nat.le_of_ble_eq_true rfl) (k2 h1 h2)
    ·
      exact px_forget (k3 h1 h2) ⟨Or.inl rfl, Or.inl rfl, Or.inl rfl, Or.inl rfl, Or.inl rfl, Or.inl rfl, Or.inl rfl, Or.inl rfl, Or.inl rfl, trivial⟩
theorem eX9_ask {E : px_E} {d : Nat} {w : pw_W} {Q : Option Value → pw_W → Prop} {t : ct_T} (hw : w.1 = cs t) {x1 x2 x3 : Int32} (ht1 : is_Hamlet t.1) 
    (k1 : ¬ (pX9_isWithin x1 14) → px_W E mX9_ask (d + 2) 0 0 16 [.null, .null, .null, .null, .null, .null, .null, .null, .null] [] w Q)
    (k2 : (pX9_isWithin x1 14) → (pX9_isZeroOrOne x2) → px_Call E (d + 1) 0 0 mX7_fitting [.ref 48, .ref t.1, .int x3] w (fun v w' => px_W E mX9_ask (d + 2) 0 0 30 [.ref 1, .int x1, .int x2, .null, .null, .null, .null, .null, .null] (v.toList ++ []) w' Q))
    (k3 : (pX9_isWithin x1 14) → ¬ (pX9_isZeroOrOne x2) → px_W E mX9_ask (d + 2) 0 0 16 [.null, .null, .null, .null, .null, .null, .null, .null, .null] [] w Q) :
    px_Call E (d + 2) 0 0 mX9_ask [.ref 1, .int x1, .int x2, .int x3] w Q :=
  px_enter (k := 5) (by decide) (Nat.le_of_ble_eq_true rfl) rfl (px_forget (bX9_ask_0 hw ht1 k1 k2 k3) ⟨Or.inr rfl, Or.inr rfl, Or.inr rfl, Or.inr rfl, Or.inl rfl, Or.inl rfl, Or.inl rfl, Or.inl rfl, Or.inl rfl, trivial⟩)
theorem bX9_ask_16 {E : px_E} {d : Nat} {w : pw_W} {Q : Option Value → pw_W → Prop} {t : ct_T} (hw : w.1 = cs t) (ht1 : is_Hamlet t.1) 
    (k1 : Q (some (.int (-1))) w) :
    px_W E mX9_ask (d + 2) 0 0 16 [.null, .null, .null, .null, .null, .null, .null, .null, .null] [] w Q := by
  refine px_iconst dX9_ask_16 ic_m1 ?_
  exact px_ireturn dX9_ask_17 rfl rfl k1
theorem bX9_ask_30 {E : px_E} {d : Nat} {w : pw_W} {Q : Option Value → pw_W → Prop} {t : ct_T} (hw : w.1 = cs t) {x1 x2 y0 : Int32} (ht1 : is_Hamlet t.1) 
    (k1 : ¬ y0 = 0 → px_W E mX9_ask (d + 2) 0 0 49 [.ref 1, .int x1, .int x2, .null, .int y0, .int (-1), .int 32, .int 0, .null] [] w Q)
    (k2 : y0 = 0 → Q (some (.int (-1))) w) :
    px_W E mX9_ask (d + 2) 0 0 30 [.ref 1, .int x1, .int x2, .null, .null, .null, .null, .null, .null] [.int y0] w Q := by
  refine px_istore (ls' := [.ref 1, .int x1, .int x2, .null, .int y0, .null, .null, .null, .null]) dX9_ask_30 ⟨by decide, rfl⟩ rfl ?_
  refine px_iload dX9_ask_32 rfl ?_
  refine px_if_ne (tgt := 39) dX9_ask_34 (by decide) (fun h1 => ?_) (fun h1 => ?_)
  ·
    refine px_iconst dX9_ask_39 ic_m1 ?_
    refine px_istore (ls' := [.ref 1, .int x1, .int x2, .null, .int y0, .int (-1), .null, .null, .null]) dX9_ask_40 ⟨by decide, rfl⟩ rfl ?_
    refine px_bipush dX9_ask_42 bp_32 ?_
    refine px_istore (ls' := [.ref 1, .int x1, .int x2, .null, .int y0, .int (-1), .int 32, .null, .null]) dX9_ask_44 ⟨by decide, rfl⟩ rfl ?_
    refine px_iconst dX9_ask_46 ic_0 ?_
    refine px_istore (ls' := [.ref 1, .int x1, .int x2, .null, .int y0, .int (-1), .int 32, .int 0, .null]) dX9_ask_47 ⟨by decide, rfl⟩ rfl ?_
    exact (k1 h1)
  ·
    refine px_iconst dX9_ask_37 ic_m1 ?_
    exact px_ireturn dX9_ask_38 rfl rfl (k2 h1)
theorem bX9_ask_49 {E : px_E} {d : Nat} {w : pw_W} {Q : Option Value → pw_W → Prop} {t : ct_T} (hw : w.1 = cs t) {x1 x2 x4 x5 x6 x7 : Int32} (ht1 : is_Hamlet t.1) 
    (k1 : (pw_I w t.1 0) ≤ x7 → ¬ x2 = 0 → px_W E mX9_ask (d + 2) 0 0 107 [.null, .null, .null, .null, .null, .null, .null, .null, .null] [.int x6] w Q)
    (k2 : (pw_I w t.1 0) ≤ x7 → x2 = 0 → px_W E mX9_ask (d + 2) 0 0 107 [.null, .null, .null, .null, .null, .null, .null, .null, .null] [.int x5] w Q)
    (k3 : ¬ (pw_I w t.1 0) ≤ x7 → px_Call E (d + 1) 0 0 mX7_mostLeft [.ref 48, .int x4, .int x1, .int x7] w (fun v w' => px_W E mX9_ask (d + 2) 0 0 73 [.ref 1, .int x1, .int x2, .null, .int x4, .int x5, .int x6, .int x7, .null] (v.toList ++ []) w' Q)) :
    px_W E mX9_ask (d + 2) 0 0 49 [.ref 1, .int x1, .int x2, .null, .int x4, .int x5, .int x6, .int x7, .null] [] w Q := by
  refine px_iload dX9_ask_49 rfl ?_
  refine px_aload_n dX9_ask_51 rfl rfl ?_
  refine px_getR (v := t.1) dX9_ask_52 fr_9_20 rfl (px_sh1 hw sh_1) (px_rf hw rf_1_2) ht1.ne ?_
  refine px_getI dX9_ask_55 fr_9_110 rfl (px_sh1 hw ht1.sh) ?_
  refine px_icmp_ge (tgt := 96) dX9_ask_58 (by decide) (fun h1 => ?_) (fun h1 => ?_)
  ·
    refine px_iload_n dX9_ask_96 rfl rfl ?_
    refine px_if_ne (tgt := 105) dX9_ask_97 (by decide) (fun h2 => ?_) (fun h2 => ?_)
    ·
      refine px_iload dX9_ask_105 rfl ?_
      exact px_forget (k1 h1 h2) ⟨Or.inl rfl, Or.inl rfl, Or.inl rfl, Or.inl rfl, Or.inl rfl, Or.inl rfl, Or.inl rfl, Or.inl rfl, Or.inl rfl, trivial⟩
    ·
      refine px_iload dX9_ask_100 rfl ?_
      refine px_goto (tgt := 107) dX9_ask_102 (by decide) ?_
      exact px_forget (k2 h1 h2) ⟨Or.inl rfl, Or.inl rfl, Or.inl rfl, Or.inl rfl, Or.inl rfl, Or.inl rfl, Or.inl rfl, Or.inl rfl, Or.inl rfl, trivial⟩
  ·
    refine px_aload_n dX9_ask_61 rfl rfl ?_
    refine px_getR (v := 48) dX9_ask_62 fr_9_75 rfl (px_sh1 hw sh_1) (px_rf hw rf_1_12) (by decide) ?_
    refine px_iload dX9_ask_65 rfl ?_
    refine px_iload_n dX9_ask_67 rfl rfl ?_
    refine px_iload dX9_ask_68 rfl ?_
    exact px_callV (As := [.int x4, .int x1, .int x7]) (st := []) (rc := 0) (rs := 0) (mc := 0) (ms := 0) dX9_ask_70 lk_9_313 (px_sh1 hw sh_48) rfl rfl (Nat.le_of_ble_eq_true rfl) (k3 h1)
theorem bX9_ask_73 {E : px_E} {d : Nat} {w : pw_W} {Q : Option Value → pw_W → Prop} {t : ct_T} (hw : w.1 = cs t) {x1 x2 x4 x5 x6 x7 y0 : Int32} (ht1 : is_Hamlet t.1) 
    (k1 : x6 ≤ y0 → px_W E mX9_ask (d + 2) 0 0 90 [.ref 1, .int x1, .int x2, .null, .int x4, .int x5, .int x6, .int x7, .null] [] w Q)
    (k2 : ¬ x6 ≤ y0 → px_W E mX9_ask (d + 2) 0 0 90 [.ref 1, .int x1, .int x2, .null, .int x4, .int x7, .int y0, .int x7, .null] [] w Q) :
    px_W E mX9_ask (d + 2) 0 0 73 [.ref 1, .int x1, .int x2, .null, .int x4, .int x5, .int x6, .int x7, .null] [.int y0] w Q := by
  refine px_istore (ls' := [.ref 1, .int x1, .int x2, .null, .int x4, .int x5, .int x6, .int x7, .int y0]) dX9_ask_73 ⟨by decide, rfl⟩ rfl ?_
  refine px_iload dX9_ask_75 rfl ?_
  refine px_iload dX9_ask_77 rfl ?_
  refine px_icmp_ge (tgt := 90) dX9_ask_79 (by decide) (fun h1 => ?_) (fun h1 => ?_)
  ·
    exact px_forget (k1 h1) ⟨Or.inr rfl, Or.inr rfl, Or.inr rfl, Or.inl rfl, Or.inr rfl, Or.inr rfl, Or.inr rfl, Or.inr rfl, Or.inl rfl, trivial⟩
  ·
    refine px_iload dX9_ask_82 rfl ?_
    refine px_istore (ls' := [.ref 1, .int x1, .int x2, .null, .int x4, .int x7, .int x6, .int x7, .int y0]) dX9_ask_84 ⟨by decide, rfl⟩ rfl ?_
    refine px_iload dX9_ask_86 rfl ?_
    refine px_istore (ls' := [.ref 1, .int x1, .int x2, .null, .int x4, .int x7, .int y0, .int x7, .int y0]) dX9_ask_88 ⟨by decide, rfl⟩ rfl ?_
    exact px_forget (k2 h1) ⟨Or.inr rfl, Or.inr rfl, Or.inr rfl, Or.inl rfl, Or.inr rfl, Or.inr rfl, Or.inr rfl, Or.inr rfl, Or.inl rfl, trivial⟩
theorem bX9_ask_90 {E : px_E} {d : Nat} {w : pw_W} {Q : Option Value → pw_W → Prop} {t : ct_T} (hw : w.1 = cs t) {x1 x2 x4 x5 x6 x7 : Int32} (ht1 : is_Hamlet t.1) 
    (k1 : px_W E mX9_ask (d + 2) 0 0 49 [.ref 1, .int x1, .int x2, .null, .int x4, .int x5, .int x6, .int (x7 + 1), .null] [] w Q) :
    px_W E mX9_ask (d + 2) 0 0 90 [.ref 1, .int x1, .int x2, .null, .int x4, .int x5, .int x6, .int x7, .null] [] w Q := by
  refine px_iinc (ls' := [.ref 1, .int x1, .int x2, .null, .int x4, .int x5, .int x6, .int (x7 + 1), .null]) dX9_ask_90 ⟨by decide, rfl⟩ rfl rfl rfl ?_
  refine px_goto (tgt := 49) dX9_ask_93 (by decide) ?_
  exact k1
theorem bX9_ask_107 {E : px_E} {d : Nat} {w : pw_W} {Q : Option Value → pw_W → Prop} {t : ct_T} (hw : w.1 = cs t) {y0 : Int32} (ht1 : is_Hamlet t.1) 
    (k1 : Q (some (.int y0)) w) :
    px_W E mX9_ask (d + 2) 0 0 107 [.null, .null, .null, .null, .null, .null, .null, .null, .null] [.int y0] w Q := by
  exact px_ireturn dX9_ask_107 rfl rfl k1
theorem dX9_image_0 : decode mX9_image.2.1 0 = .ok (.iload_n 1, 1) := by decide +kernel
theorem dX9_image_1 : decode mX9_image.2.1 1 = .ok (.invokestatic 317, 3) := by decide +kernel
theorem dX9_image_4 : decode mX9_image.2.1 4 = .ok (.ifCond .ne 5, 3) := by decide +kernel
theorem dX9_image_7 : decode mX9_image.2.1 7 = .ok (.iconst (-1), 1) := by decide +kernel
theorem dX9_image_8 : decode mX9_image.2.1 8 = .ok (.ireturn, 1) := by decide +kernel
theorem dX9_image_9 : decode mX9_image.2.1 9 = .ok (.aload_n 0, 1) := by decide +kernel
theorem dX9_image_10 : decode mX9_image.2.1 10 = .ok (.getfield 40, 3) := by decide +kernel
theorem dX9_image_13 : decode mX9_image.2.1 13 = .ok (.aload_n 0, 1) := by decide +kernel
theorem dX9_image_14 : decode mX9_image.2.1 14 = .ok (.getfield 51, 3) := by decide +kernel
theorem dX9_image_17 : decode mX9_image.2.1 17 = .ok (.iload_n 1, 1) := by decide +kernel
theorem dX9_image_18 : decode mX9_image.2.1 18 = .ok (.invokevirtual 320, 3) := by decide +kernel
theorem dX9_image_21 : decode mX9_image.2.1 21 = .ok (.aload_n 0, 1) := by decide +kernel
theorem dX9_image_22 : decode mX9_image.2.1 22 = .ok (.dup, 1) := by decide +kernel
theorem dX9_image_23 : decode mX9_image.2.1 23 = .ok (.getfield 55, 3) := by decide +kernel
theorem dX9_image_26 : decode mX9_image.2.1 26 = .ok (.iconst 1, 1) := by decide +kernel
theorem dX9_image_27 : decode mX9_image.2.1 27 = .ok (.iload_n 1, 1) := by decide +kernel
theorem dX9_image_28 : decode mX9_image.2.1 28 = .ok (.ishl, 1) := by decide +kernel
theorem dX9_image_29 : decode mX9_image.2.1 29 = .ok (.ior, 1) := by decide +kernel
theorem dX9_image_30 : decode mX9_image.2.1 30 = .ok (.putfield 55, 3) := by decide +kernel
theorem dX9_image_33 : decode mX9_image.2.1 33 = .ok (.aload_n 0, 1) := by decide +kernel
theorem dX9_image_34 : decode mX9_image.2.1 34 = .ok (.getfield 40, 3) := by decide +kernel
theorem dX9_image_37 : decode mX9_image.2.1 37 = .ok (.getfield 164, 3) := by decide +kernel
theorem dX9_image_40 : decode mX9_image.2.1 40 = .ok (.ireturn, 1) := by decide +kernel
theorem bX9_image_0 {E : px_E} {d : Nat} {w : pw_W} {Q : Option Value → pw_W → Prop} {t : ct_T} (hw : w.1 = cs t) {x1 : Int32}  
    (k1 : (pX9_isBox x1) → px_Call E (d + 1) 0 0 mX8_writeTo [.ref 35, .ref 40, .int x1] w (fun v w' => px_W E mX9_image (d + 2) 0 0 21 [.ref 1, .int x1] (v.toList ++ []) w' Q))
    (k2 : ¬ (pX9_isBox x1) → Q (some (.int (-1))) w) :
    px_W E mX9_image (d + 2) 0 0 0 [.ref 1, .int x1] [] w Q := by
  refine px_iload_n dX9_image_0 rfl rfl ?_
  refine px_callS (As := [.int x1]) (st := []) (rc := 0) (rs := 0) (mc := 0) (ms := 0) dX9_image_1 lk_9_317 rfl rfl (Nat.le_of_ble_eq_true rfl) (sX9_isBox ?_)
  show px_W E mX9_image (d + 2) 0 0 4 [.ref 1, .int x1] [.int (jb (pX9_isBox x1))] w Q
  refine px_jb_ne (tgt := 9) dX9_image_4 (by decide) (fun h1 => ?_) (fun h1 => ?_)
  ·
    refine px_aload_n dX9_image_9 rfl rfl ?_
    refine px_getR (v := 35) dX9_image_10 fr_9_40 rfl (px_sh1 hw sh_1) (px_rf hw rf_1_6) (by decide) ?_
    refine px_aload_n dX9_image_13 rfl rfl ?_
    refine px_getR (v := 40) dX9_image_14 fr_9_51 rfl (px_sh1 hw sh_1) (px_rf hw rf_1_8) (by decide) ?_
    refine px_iload_n dX9_image_17 rfl rfl ?_
    exact px_callV (As := [.ref 40, .int x1]) (st := []) (rc := 0) (rs := 0) (mc := 0) (ms := 0) dX9_image_18 lk_9_320 (px_sh1 hw sh_35) rfl rfl (Nat.le_of_ble_eq_true rfl) (k1 h1)
  ·
    refine px_iconst dX9_image_7 ic_m1 ?_
    exact px_ireturn dX9_image_8 rfl rfl (k2 h1)
theorem eX9_image {E : px_E} {d : Nat} {w : pw_W} {Q : Option Value → pw_W → Prop} {t : ct_T} (hw : w.1 = cs t) {x1 : Int32}  
    (k1 : (pX9_isBox x1) → px_Call E (d + 1) 0 0 mX8_writeTo [.ref 35, .ref 40, .int x1] w (fun v w' => px_W E mX9_image (d + 2) 0 0 21 [.ref 1, .int x1] (v.toList ++ []) w' Q))
    (k2 : ¬ (pX9_isBox x1) → Q (some (.int (-1))) w) :
    px_Call E (d + 2) 0 0 mX9_image [.ref 1, .int x1] w Q :=
  px_enter (k := 0) (by decide) (Nat.le_of_ble_eq_true rfl) rfl (px_forget (bX9_image_0 hw k1 k2) ⟨Or.inr rfl, Or.inr rfl, trivial⟩)
theorem bX9_image_21 {E : px_E} {d : Nat} {w : pw_W} {Q : Option Value → pw_W → Prop} {t : ct_T} (hw : w.1 = cs t) {x1 : Int32}  
    (k1 : Q (some (.int (pw_I w 35 3))) (pw_sI w 1 9 ((pw_I w 1 9) ||| (js_shl 1 x1)))) :
    px_W E mX9_image (d + 2) 0 0 21 [.ref 1, .int x1] [] w Q := by
  refine px_aload_n dX9_image_21 rfl rfl ?_
  refine px_dup dX9_image_22 rfl ?_
  refine px_getI dX9_image_23 fr_9_55 rfl (px_sh1 hw sh_1) ?_
  refine px_iconst dX9_image_26 ic_1 ?_
  refine px_iload_n dX9_image_27 rfl rfl ?_
  refine px_ishl dX9_image_28 ?_
  refine px_ior dX9_image_29 ?_
  refine px_putI dX9_image_30 fl_9_55 (Or.inl rfl) rfl (px_sh1 hw sh_1) rfl rfl (by omega) ?_
  refine px_aload_n dX9_image_33 rfl rfl ?_
  refine px_getR (v := 35) dX9_image_34 fr_9_40 rfl (px_sh1 (hI hw) sh_1) (px_rf (hI hw) rf_1_6) (by decide) ?_
  refine px_getIv (v := (pw_I w 35 3)) dX9_image_37 fr_9_164 rfl (px_sh1 (hI hw) sh_35) rfl ?_
  exact px_ireturn dX9_image_40 rfl rfl k1
theorem dX9_back_0 : decode mX9_back.2.1 0 = .ok (.iload_n 1, 1) := by decide +kernel
theorem dX9_back_1 : decode mX9_back.2.1 1 = .ok (.invokestatic 317, 3) := by decide +kernel
theorem dX9_back_4 : decode mX9_back.2.1 4 = .ok (.ifCond .eq 14, 3) := by decide +kernel
theorem dX9_back_7 : decode mX9_back.2.1 7 = .ok (.aload_n 0, 1) := by decide +kernel
theorem dX9_back_8 : decode mX9_back.2.1 8 = .ok (.getfield 55, 3) := by decide +kernel
theorem dX9_back_11 : decode mX9_back.2.1 11 = .ok (.iload_n 1, 1) := by decide +kernel
theorem dX9_back_12 : decode mX9_back.2.1 12 = .ok (.ishr, 1) := by decide +kernel
theorem dX9_back_13 : decode mX9_back.2.1 13 = .ok (.iconst 1, 1) := by decide +kernel
theorem dX9_back_14 : decode mX9_back.2.1 14 = .ok (.iand, 1) := by decide +kernel
theorem dX9_back_15 : decode mX9_back.2.1 15 = .ok (.ifCond .ne 5, 3) := by decide +kernel
theorem dX9_back_18 : decode mX9_back.2.1 18 = .ok (.iconst (-1), 1) := by decide +kernel
theorem dX9_back_19 : decode mX9_back.2.1 19 = .ok (.ireturn, 1) := by decide +kernel
theorem dX9_back_20 : decode mX9_back.2.1 20 = .ok (.aload_n 0, 1) := by decide +kernel
theorem dX9_back_21 : decode mX9_back.2.1 21 = .ok (.getfield 40, 3) := by decide +kernel
theorem dX9_back_24 : decode mX9_back.2.1 24 = .ok (.aload_n 0, 1) := by decide +kernel
theorem dX9_back_25 : decode mX9_back.2.1 25 = .ok (.getfield 51, 3) := by decide +kernel
theorem dX9_back_28 : decode mX9_back.2.1 28 = .ok (.iload_n 1, 1) := by decide +kernel
theorem dX9_back_29 : decode mX9_back.2.1 29 = .ok (.invokevirtual 324, 3) := by decide +kernel
theorem dX9_back_32 : decode mX9_back.2.1 32 = .ok (.aload_n 0, 1) := by decide +kernel
theorem dX9_back_33 : decode mX9_back.2.1 33 = .ok (.getfield 47, 3) := by decide +kernel
theorem dX9_back_36 : decode mX9_back.2.1 36 = .ok (.aload_n 0, 1) := by decide +kernel
theorem dX9_back_37 : decode mX9_back.2.1 37 = .ok (.getfield 40, 3) := by decide +kernel
theorem dX9_back_40 : decode mX9_back.2.1 40 = .ok (.invokevirtual 103, 3) := by decide +kernel
theorem dX9_back_43 : decode mX9_back.2.1 43 = .ok (.aload_n 0, 1) := by decide +kernel
theorem dX9_back_44 : decode mX9_back.2.1 44 = .ok (.getfield 40, 3) := by decide +kernel
theorem dX9_back_47 : decode mX9_back.2.1 47 = .ok (.getfield 164, 3) := by decide +kernel
theorem dX9_back_50 : decode mX9_back.2.1 50 = .ok (.ireturn, 1) := by decide +kernel
theorem bX9_back_0 {E : px_E} {d : Nat} {w : pw_W} {Q : Option Value → pw_W → Prop} {t : ct_T} (hw : w.1 = cs t) {x1 : Int32}  
    (k1 : ¬ (pX9_isBox x1) → px_W E mX9_back (d + 2) 0 0 18 [.null, .null] [] w Q)
    (k2 : (pX9_isBox x1) → ¬ ((js_shr (pw_I w 1 9) x1) &&& 1) = 0 → px_Call E (d + 1) 0 0 mX8_readFrom [.ref 35, .ref 40, .int x1] w (fun v w' => px_W E mX9_back (d + 2) 0 0 32 [.ref 1, .null] (v.toList ++ []) w' Q))
    (k3 : (pX9_isBox x1) → ((js_shr (pw_I w 1 9) x1) &&& 1) = 0 → px_W E mX9_back (d + 2) 0 0 18 [.null, .null] [] w Q) :
    px_W E mX9_back (d + 2) 0 0 0 [.ref 1, .int x1] [] w Q := by
  refine px_iload_n dX9_back_0 rfl rfl ?_
  refine px_callS (As := [.int x1]) (st := []) (rc := 0) (rs := 0) (mc := 0) (ms := 0) dX9_back_1 lk_9_317 rfl rfl (Nat.le_of_ble_eq_true rfl) (sX9_isBox ?_)
  show px_W E mX9_back (d + 2) 0 0 4 [.ref 1, .int x1] [.int (jb (pX9_isBox x1))] w Q
  refine px_jb_eq (tgt := 18) dX9_back_4 (by decide) (fun h1 => ?_) (fun h1 => ?_)
  ·
    exact px_forget (k1 h1) ⟨Or.inl rfl, Or.inl rfl, trivial⟩
  ·
    refine px_aload_n dX9_back_7 rfl rfl ?_
    refine px_getI dX9_back_8 fr_9_55 rfl (px_sh1 hw sh_1) ?_
    refine px_iload_n dX9_back_11 rfl rfl ?_
    refine px_ishr dX9_back_12 ?_
    refine px_iconst dX9_back_13 ic_1 ?_
    refine px_iand dX9_back_14 ?_
    refine px_if_ne (tgt := 20) dX9_back_15 (by decide) (fun h2 => ?_) (fun h2 => ?_)
    ·
      refine px_aload_n dX9_back_20 rfl rfl ?_
      refine px_getR (v := 35) dX9_back_21 fr_9_40 rfl (px_sh1 hw sh_1) (px_rf hw rf_1_6) (by decide) ?_
      refine px_aload_n dX9_back_24 rfl rfl ?_
      refine px_getR (v := 40) dX9_back_25 fr_9_51 rfl (px_sh1 hw sh_1) (px_rf hw rf_1_8) (by decide) ?_
      refine px_iload_n dX9_back_28 rfl rfl ?_
      refine px_forget (ls' := [.ref 1, .null]) ?_ ⟨Or.inr rfl, Or.inl rfl, trivial⟩
      exact px_callV (As := [.ref 40, .int x1]) (st := []) (rc := 0) (rs := 0) (mc := 0) (ms := 0) dX9_back_29 lk_9_324 (px_sh1 hw sh_35) rfl rfl (Nat.le_of_ble_eq_true rfl) (k2 h1 h2)
    ·
      exact px_forget (k3 h1 h2) ⟨Or.inl rfl, Or.inl rfl, trivial⟩
theorem eX9_back {E : px_E} {d : Nat} {w : pw_W} {Q : Option Value → pw_W → Prop} {t : ct_T} (hw : w.1 = cs t) {x1 : Int32}  
    (k1 : ¬ (pX9_isBox x1) → px_W E mX9_back (d + 2) 0 0 18 [.null, .null] [] w Q)
    (k2 : (pX9_isBox x1) → ¬ ((js_shr (pw_I w 1 9) x1) &&& 1) = 0 → px_Call E (d + 1) 0 0 mX8_readFrom [.ref 35, .ref 40, .int x1] w (fun v w' => px_W E mX9_back (d + 2) 0 0 32 [.ref 1, .null] (v.toList ++ []) w' Q))
    (k3 : (pX9_isBox x1) → ((js_shr (pw_I w 1 9) x1) &&& 1) = 0 → px_W E mX9_back (d + 2) 0 0 18 [.null, .null] [] w Q) :
    px_Call E (d + 2) 0 0 mX9_back [.ref 1, .int x1] w Q :=
  px_enter (k := 0) (by decide) (Nat.le_of_ble_eq_true rfl) rfl (px_forget (bX9_back_0 hw k1 k2 k3) ⟨Or.inr rfl, Or.inr rfl, trivial⟩)
theorem bX9_back_18 {E : px_E} {d : Nat} {w : pw_W} {Q : Option Value → pw_W → Prop} {t : ct_T} (hw : w.1 = cs t)  
    (k1 : Q (some (.int (-1))) w) :
    px_W E mX9_back (d + 2) 0 0 18 [.null, .null] [] w Q := by
  refine px_iconst dX9_back_18 ic_m1 ?_
  exact px_ireturn dX9_back_19 rfl rfl k1
theorem bX9_back_32 {E : px_E} {d : Nat} {w : pw_W} {Q : Option Value → pw_W → Prop} {t : ct_T} (hw : w.1 = cs t)  
    (k1 : px_Call E (d + 1) 0 0 mX3_restart [.ref 38, .ref 35] w (fun v w' => px_W E mX9_back (d + 2) 0 0 43 [.ref 1, .null] (v.toList ++ []) w' Q)) :
    px_W E mX9_back (d + 2) 0 0 32 [.ref 1, .null] [] w Q := by
  refine px_aload_n dX9_back_32 rfl rfl ?_
  refine px_getR (v := 38) dX9_back_33 fr_9_47 rfl (px_sh1 hw sh_1) (px_rf hw rf_1_7) (by decide) ?_
  refine px_aload_n dX9_back_36 rfl rfl ?_
  refine px_getR (v := 35) dX9_back_37 fr_9_40 rfl (px_sh1 hw sh_1) (px_rf hw rf_1_6) (by decide) ?_
  exact px_callV (As := [.ref 35]) (st := []) (rc := 0) (rs := 0) (mc := 0) (ms := 0) dX9_back_40 lk_9_103 (px_sh1 hw sh_38) rfl rfl (Nat.le_of_ble_eq_true rfl) k1
theorem bX9_back_43 {E : px_E} {d : Nat} {w : pw_W} {Q : Option Value → pw_W → Prop} {t : ct_T} (hw : w.1 = cs t)  
    (k1 : Q (some (.int (pw_I w 35 3))) w) :
    px_W E mX9_back (d + 2) 0 0 43 [.ref 1, .null] [] w Q := by
  refine px_aload_n dX9_back_43 rfl rfl ?_
  refine px_getR (v := 35) dX9_back_44 fr_9_40 rfl (px_sh1 hw sh_1) (px_rf hw rf_1_6) (by decide) ?_
  refine px_getI dX9_back_47 fr_9_164 rfl (px_sh1 hw sh_35) ?_
  exact px_ireturn dX9_back_50 rfl rfl k1
theorem dX9_about_0 : decode mX9_about.2.1 0 = .ok (.iload_n 1, 1) := by decide +kernel
theorem dX9_about_1 : decode mX9_about.2.1 1 = .ok (.tableswitch 192 0 14 #[75, 83, 91, 99, 107, 115, 123, 131, 139, 147, 155, 160, 171, 176, 184], 75) := by decide +kernel
theorem dX9_about_76 : decode mX9_about.2.1 76 = .ok (.aload_n 0, 1) := by decide +kernel
theorem dX9_about_77 : decode mX9_about.2.1 77 = .ok (.getfield 20, 3) := by decide +kernel
theorem dX9_about_80 : decode mX9_about.2.1 80 = .ok (.getfield 110, 3) := by decide +kernel
theorem dX9_about_83 : decode mX9_about.2.1 83 = .ok (.ireturn, 1) := by decide +kernel
theorem dX9_about_84 : decode mX9_about.2.1 84 = .ok (.aload_n 0, 1) := by decide +kernel
theorem dX9_about_85 : decode mX9_about.2.1 85 = .ok (.getfield 20, 3) := by decide +kernel
theorem dX9_about_88 : decode mX9_about.2.1 88 = .ok (.getfield 269, 3) := by decide +kernel
theorem dX9_about_91 : decode mX9_about.2.1 91 = .ok (.ireturn, 1) := by decide +kernel
theorem dX9_about_92 : decode mX9_about.2.1 92 = .ok (.aload_n 0, 1) := by decide +kernel
theorem dX9_about_93 : decode mX9_about.2.1 93 = .ok (.getfield 20, 3) := by decide +kernel
theorem dX9_about_96 : decode mX9_about.2.1 96 = .ok (.getfield 283, 3) := by decide +kernel
theorem dX9_about_99 : decode mX9_about.2.1 99 = .ok (.ireturn, 1) := by decide +kernel
theorem dX9_about_100 : decode mX9_about.2.1 100 = .ok (.aload_n 0, 1) := by decide +kernel
theorem dX9_about_101 : decode mX9_about.2.1 101 = .ok (.getfield 40, 3) := by decide +kernel
theorem dX9_about_104 : decode mX9_about.2.1 104 = .ok (.getfield 240, 3) := by decide +kernel
theorem dX9_about_107 : decode mX9_about.2.1 107 = .ok (.ireturn, 1) := by decide +kernel
theorem dX9_about_108 : decode mX9_about.2.1 108 = .ok (.aload_n 0, 1) := by decide +kernel
theorem dX9_about_109 : decode mX9_about.2.1 109 = .ok (.getfield 40, 3) := by decide +kernel
theorem dX9_about_112 : decode mX9_about.2.1 112 = .ok (.getfield 164, 3) := by decide +kernel
theorem dX9_about_115 : decode mX9_about.2.1 115 = .ok (.ireturn, 1) := by decide +kernel
theorem dX9_about_116 : decode mX9_about.2.1 116 = .ok (.aload_n 0, 1) := by decide +kernel
theorem dX9_about_117 : decode mX9_about.2.1 117 = .ok (.getfield 40, 3) := by decide +kernel
theorem dX9_about_120 : decode mX9_about.2.1 120 = .ok (.getfield 327, 3) := by decide +kernel
theorem dX9_about_123 : decode mX9_about.2.1 123 = .ok (.ireturn, 1) := by decide +kernel
theorem dX9_about_124 : decode mX9_about.2.1 124 = .ok (.aload_n 0, 1) := by decide +kernel
theorem dX9_about_125 : decode mX9_about.2.1 125 = .ok (.getfield 47, 3) := by decide +kernel
theorem dX9_about_128 : decode mX9_about.2.1 128 = .ok (.invokevirtual 330, 3) := by decide +kernel
theorem dX9_about_131 : decode mX9_about.2.1 131 = .ok (.ireturn, 1) := by decide +kernel
theorem dX9_about_132 : decode mX9_about.2.1 132 = .ok (.aload_n 0, 1) := by decide +kernel
theorem dX9_about_133 : decode mX9_about.2.1 133 = .ok (.getfield 47, 3) := by decide +kernel
theorem dX9_about_136 : decode mX9_about.2.1 136 = .ok (.invokevirtual 333, 3) := by decide +kernel
theorem dX9_about_139 : decode mX9_about.2.1 139 = .ok (.ireturn, 1) := by decide +kernel
theorem dX9_about_140 : decode mX9_about.2.1 140 = .ok (.aload_n 0, 1) := by decide +kernel
theorem dX9_about_141 : decode mX9_about.2.1 141 = .ok (.getfield 75, 3) := by decide +kernel
theorem dX9_about_144 : decode mX9_about.2.1 144 = .ok (.getfield 336, 3) := by decide +kernel
theorem dX9_about_147 : decode mX9_about.2.1 147 = .ok (.ireturn, 1) := by decide +kernel
theorem dX9_about_148 : decode mX9_about.2.1 148 = .ok (.aload_n 0, 1) := by decide +kernel
theorem dX9_about_149 : decode mX9_about.2.1 149 = .ok (.getfield 75, 3) := by decide +kernel
theorem dX9_about_152 : decode mX9_about.2.1 152 = .ok (.getfield 339, 3) := by decide +kernel
theorem dX9_about_155 : decode mX9_about.2.1 155 = .ok (.ireturn, 1) := by decide +kernel
theorem dX9_about_156 : decode mX9_about.2.1 156 = .ok (.aload_n 0, 1) := by decide +kernel
theorem dX9_about_157 : decode mX9_about.2.1 157 = .ok (.getfield 13, 3) := by decide +kernel
theorem dX9_about_160 : decode mX9_about.2.1 160 = .ok (.ireturn, 1) := by decide +kernel
theorem dX9_about_161 : decode mX9_about.2.1 161 = .ok (.aload_n 0, 1) := by decide +kernel
theorem dX9_about_162 : decode mX9_about.2.1 162 = .ok (.getfield 20, 3) := by decide +kernel
theorem dX9_about_165 : decode mX9_about.2.1 165 = .ok (.getfield 160, 3) := by decide +kernel
theorem dX9_about_168 : decode mX9_about.2.1 168 = .ok (.getfield 342, 3) := by decide +kernel
theorem dX9_about_171 : decode mX9_about.2.1 171 = .ok (.ireturn, 1) := by decide +kernel
theorem dX9_about_172 : decode mX9_about.2.1 172 = .ok (.aload_n 0, 1) := by decide +kernel
theorem dX9_about_173 : decode mX9_about.2.1 173 = .ok (.getfield 82, 3) := by decide +kernel
theorem dX9_about_176 : decode mX9_about.2.1 176 = .ok (.ireturn, 1) := by decide +kernel
theorem dX9_about_177 : decode mX9_about.2.1 177 = .ok (.aload_n 0, 1) := by decide +kernel
theorem dX9_about_178 : decode mX9_about.2.1 178 = .ok (.getfield 20, 3) := by decide +kernel
theorem dX9_about_181 : decode mX9_about.2.1 181 = .ok (.getfield 345, 3) := by decide +kernel
theorem dX9_about_184 : decode mX9_about.2.1 184 = .ok (.ireturn, 1) := by decide +kernel
theorem dX9_about_185 : decode mX9_about.2.1 185 = .ok (.aload_n 0, 1) := by decide +kernel
theorem dX9_about_186 : decode mX9_about.2.1 186 = .ok (.getfield 20, 3) := by decide +kernel
theorem dX9_about_189 : decode mX9_about.2.1 189 = .ok (.getfield 292, 3) := by decide +kernel
theorem dX9_about_192 : decode mX9_about.2.1 192 = .ok (.ireturn, 1) := by decide +kernel
theorem dX9_about_193 : decode mX9_about.2.1 193 = .ok (.iconst (-1), 1) := by decide +kernel
theorem dX9_about_194 : decode mX9_about.2.1 194 = .ok (.ireturn, 1) := by decide +kernel
theorem bX9_about_0 {E : px_E} {d : Nat} {w : pw_W} {Q : Option Value → pw_W → Prop} {t : ct_T} (hw : w.1 = cs t) {x1 : Int32} (ht1 : is_Hamlet t.1) 
    (k1 : x1 = 0 → Q (some (.int (pw_I w t.1 0))) w)
    (k2 : ¬ x1 = 0 → x1 = 1 → Q (some (.int (pw_I w t.1 4))) w)
    (k3 : ¬ x1 = 0 → ¬ x1 = 1 → x1 = 2 → Q (some (.int (pw_I w t.1 8))) w)
    (k4 : ¬ x1 = 0 → ¬ x1 = 1 → ¬ x1 = 2 → x1 = 3 → Q (some (.int (pw_I w 35 2))) w)
    (k5 : ¬ x1 = 0 → ¬ x1 = 1 → ¬ x1 = 2 → ¬ x1 = 3 → x1 = 4 → Q (some (.int (pw_I w 35 3))) w)
    (k6 : ¬ x1 = 0 → ¬ x1 = 1 → ¬ x1 = 2 → ¬ x1 = 3 → ¬ x1 = 4 → x1 = 5 → Q (some (.int (pw_I w 35 4))) w)
    (k7 : ¬ x1 = 0 → ¬ x1 = 1 → ¬ x1 = 2 → ¬ x1 = 3 → ¬ x1 = 4 → ¬ x1 = 5 → x1 = 6 → Q (some (.int (hX3_undoable w))) w)
    (k8 : ¬ x1 = 0 → ¬ x1 = 1 → ¬ x1 = 2 → ¬ x1 = 3 → ¬ x1 = 4 → ¬ x1 = 5 → ¬ x1 = 6 → x1 = 7 → Q (some (.int (hX3_redoable w))) w)
    (k9 : ¬ x1 = 0 → ¬ x1 = 1 → ¬ x1 = 2 → ¬ x1 = 3 → ¬ x1 = 4 → ¬ x1 = 5 → ¬ x1 = 6 → ¬ x1 = 7 → x1 = 8 → Q (some (.int (pw_I w 48 10))) w)
    (k10 : ¬ x1 = 0 → ¬ x1 = 1 → ¬ x1 = 2 → ¬ x1 = 3 → ¬ x1 = 4 → ¬ x1 = 5 → ¬ x1 = 6 → ¬ x1 = 7 → ¬ x1 = 8 → x1 = 9 → Q (some (.int (pw_I w 48 11))) w)
    (k11 : ¬ x1 = 0 → ¬ x1 = 1 → ¬ x1 = 2 → ¬ x1 = 3 → ¬ x1 = 4 → ¬ x1 = 5 → ¬ x1 = 6 → ¬ x1 = 7 → ¬ x1 = 8 → ¬ x1 = 9 → x1 = 10 → Q (some (.int (pw_I w 1 1))) w)
    (k12 : ¬ x1 = 0 → ¬ x1 = 1 → ¬ x1 = 2 → ¬ x1 = 3 → ¬ x1 = 4 → ¬ x1 = 5 → ¬ x1 = 6 → ¬ x1 = 7 → ¬ x1 = 8 → ¬ x1 = 9 → ¬ x1 = 10 → x1 = 11 → Q (some (.int (pw_I w (t.1 + 10) 3))) w)
    (k13 : ¬ x1 = 0 → ¬ x1 = 1 → ¬ x1 = 2 → ¬ x1 = 3 → ¬ x1 = 4 → ¬ x1 = 5 → ¬ x1 = 6 → ¬ x1 = 7 → ¬ x1 = 8 → ¬ x1 = 9 → ¬ x1 = 10 → ¬ x1 = 11 → x1 = 12 → Q (some (.int (pw_I w 1 14))) w)
    (k14 : ¬ x1 = 0 → ¬ x1 = 1 → ¬ x1 = 2 → ¬ x1 = 3 → ¬ x1 = 4 → ¬ x1 = 5 → ¬ x1 = 6 → ¬ x1 = 7 → ¬ x1 = 8 → ¬ x1 = 9 → ¬ x1 = 10 → ¬ x1 = 11 → ¬ x1 = 12 → x1 = 13 → Q (some (.int (pw_I w t.1 12))) w)
    (k15 : ¬ x1 = 0 → ¬ x1 = 1 → ¬ x1 = 2 → ¬ x1 = 3 → ¬ x1 = 4 → ¬ x1 = 5 → ¬ x1 = 6 → ¬ x1 = 7 → ¬ x1 = 8 → ¬ x1 = 9 → ¬ x1 = 10 → ¬ x1 = 11 → ¬ x1 = 12 → ¬ x1 = 13 → x1 = 14 → Q (some (.int (pw_I w t.1 13))) w)
    (k16 : ¬ x1 = 0 → ¬ x1 = 1 → ¬ x1 = 2 → ¬ x1 = 3 → ¬ x1 = 4 → ¬ x1 = 5 → ¬ x1 = 6 → ¬ x1 = 7 → ¬ x1 = 8 → ¬ x1 = 9 → ¬ x1 = 10 → ¬ x1 = 11 → ¬ x1 = 12 → ¬ x1 = 13 → ¬ x1 = 14 → Q (some (.int (-1))) w) :
    px_W E mX9_about (d + 2) 0 0 0 [.ref 1, .int x1] [] w Q := by
  refine px_iload_n dX9_about_0 rfl rfl ?_
  by_cases h1 : x1 = 0
  ·
    refine px_table (tgt := 76) dX9_about_1 75 (by rw [h1]; decide) (by decide) ?_
    refine px_aload_n dX9_about_76 rfl rfl ?_
    refine px_getR (v := t.1) dX9_about_77 fr_9_20 rfl (px_sh1 hw sh_1) (px_rf hw rf_1_2) ht1.ne ?_
    refine px_getI dX9_about_80 fr_9_110 rfl (px_sh1 hw ht1.sh) ?_
    exact px_ireturn dX9_about_83 rfl rfl (k1 h1)
  by_cases h2 : x1 = 1
  ·
    refine px_table (tgt := 84) dX9_about_1 83 (by rw [h2]; decide) (by decide) ?_
    refine px_aload_n dX9_about_84 rfl rfl ?_
    refine px_getR (v := t.1) dX9_about_85 fr_9_20 rfl (px_sh1 hw sh_1) (px_rf hw rf_1_2) ht1.ne ?_
    refine px_getI dX9_about_88 fr_9_269 rfl (px_sh1 hw ht1.sh) ?_
    exact px_ireturn dX9_about_91 rfl rfl (k2 h1 h2)
  by_cases h3 : x1 = 2
  ·
    refine px_table (tgt := 92) dX9_about_1 91 (by rw [h3]; decide) (by decide) ?_
    refine px_aload_n dX9_about_92 rfl rfl ?_
    refine px_getR (v := t.1) dX9_about_93 fr_9_20 rfl (px_sh1 hw sh_1) (px_rf hw rf_1_2) ht1.ne ?_
    refine px_getI dX9_about_96 fr_9_283 rfl (px_sh1 hw ht1.sh) ?_
    exact px_ireturn dX9_about_99 rfl rfl (k3 h1 h2 h3)
  by_cases h4 : x1 = 3
  ·
    refine px_table (tgt := 100) dX9_about_1 99 (by rw [h4]; decide) (by decide) ?_
    refine px_aload_n dX9_about_100 rfl rfl ?_
    refine px_getR (v := 35) dX9_about_101 fr_9_40 rfl (px_sh1 hw sh_1) (px_rf hw rf_1_6) (by decide) ?_
    refine px_getI dX9_about_104 fr_9_240 rfl (px_sh1 hw sh_35) ?_
    exact px_ireturn dX9_about_107 rfl rfl (k4 h1 h2 h3 h4)
  by_cases h5 : x1 = 4
  ·
    refine px_table (tgt := 108) dX9_about_1 107 (by rw [h5]; decide) (by decide) ?_
    refine px_aload_n dX9_about_108 rfl rfl ?_
    refine px_getR (v := 35) dX9_about_109 fr_9_40 rfl (px_sh1 hw sh_1) (px_rf hw rf_1_6) (by decide) ?_
    refine px_getI dX9_about_112 fr_9_164 rfl (px_sh1 hw sh_35) ?_
    exact px_ireturn dX9_about_115 rfl rfl (k5 h1 h2 h3 h4 h5)
  by_cases h6 : x1 = 5
  ·
    refine px_table (tgt := 116) dX9_about_1 115 (by rw [h6]; decide) (by decide) ?_
    refine px_aload_n dX9_about_116 rfl rfl ?_
    refine px_getR (v := 35) dX9_about_117 fr_9_40 rfl (px_sh1 hw sh_1) (px_rf hw rf_1_6) (by decide) ?_
    refine px_getI dX9_about_120 fr_9_327 rfl (px_sh1 hw sh_35) ?_
    exact px_ireturn dX9_about_123 rfl rfl (k6 h1 h2 h3 h4 h5 h6)
  by_cases h7 : x1 = 6
  ·
    refine px_table (tgt := 124) dX9_about_1 123 (by rw [h7]; decide) (by decide) ?_
    refine px_aload_n dX9_about_124 rfl rfl ?_
    refine px_getR (v := 38) dX9_about_125 fr_9_47 rfl (px_sh1 hw sh_1) (px_rf hw rf_1_7) (by decide) ?_
    refine px_forget (ls' := [.null, .null]) ?_ ⟨Or.inl rfl, Or.inl rfl, trivial⟩
    refine px_callV (As := []) (st := []) (rc := 0) (rs := 0) (mc := 0) (ms := 0) dX9_about_128 lk_9_330 (px_sh1 hw sh_38) rfl rfl (Nat.le_of_ble_eq_true rfl) (sX3_undoable (w := w) hw ?_)
    show px_W E mX9_about (d + 2) 0 0 131 [.null, .null] [.int (hX3_undoable w)] w Q
    exact px_ireturn dX9_about_131 rfl rfl (k7 h1 h2 h3 h4 h5 h6 h7)
  by_cases h8 : x1 = 7
  ·
    refine px_table (tgt := 132) dX9_about_1 131 (by rw [h8]; decide) (by decide) ?_
    refine px_aload_n dX9_about_132 rfl rfl ?_
    refine px_getR (v := 38) dX9_about_133 fr_9_47 rfl (px_sh1 hw sh_1) (px_rf hw rf_1_7) (by decide) ?_
    refine px_forget (ls' := [.null, .null]) ?_ ⟨Or.inl rfl, Or.inl rfl, trivial⟩
    refine px_callV (As := []) (st := []) (rc := 0) (rs := 0) (mc := 0) (ms := 0) dX9_about_136 lk_9_333 (px_sh1 hw sh_38) rfl rfl (Nat.le_of_ble_eq_true rfl) (sX3_redoable (w := w) hw ?_)
    show px_W E mX9_about (d + 2) 0 0 139 [.null, .null] [.int (hX3_redoable w)] w Q
    exact px_ireturn dX9_about_139 rfl rfl (k8 h1 h2 h3 h4 h5 h6 h7 h8)
  by_cases h9 : x1 = 8
  ·
    refine px_table (tgt := 140) dX9_about_1 139 (by rw [h9]; decide) (by decide) ?_
    refine px_aload_n dX9_about_140 rfl rfl ?_
    refine px_getR (v := 48) dX9_about_141 fr_9_75 rfl (px_sh1 hw sh_1) (px_rf hw rf_1_12) (by decide) ?_
    refine px_getI dX9_about_144 fr_9_336 rfl (px_sh1 hw sh_48) ?_
    exact px_ireturn dX9_about_147 rfl rfl (k9 h1 h2 h3 h4 h5 h6 h7 h8 h9)
  by_cases h10 : x1 = 9
  ·
    refine px_table (tgt := 148) dX9_about_1 147 (by rw [h10]; decide) (by decide) ?_
    refine px_aload_n dX9_about_148 rfl rfl ?_
    refine px_getR (v := 48) dX9_about_149 fr_9_75 rfl (px_sh1 hw sh_1) (px_rf hw rf_1_12) (by decide) ?_
    refine px_getI dX9_about_152 fr_9_339 rfl (px_sh1 hw sh_48) ?_
    exact px_ireturn dX9_about_155 rfl rfl (k10 h1 h2 h3 h4 h5 h6 h7 h8 h9 h10)
  by_cases h11 : x1 = 10
  ·
    refine px_table (tgt := 156) dX9_about_1 155 (by rw [h11]; decide) (by decide) ?_
    refine px_aload_n dX9_about_156 rfl rfl ?_
    refine px_getI dX9_about_157 fr_9_13 rfl (px_sh1 hw sh_1) ?_
    exact px_ireturn dX9_about_160 rfl rfl (k11 h1 h2 h3 h4 h5 h6 h7 h8 h9 h10 h11)
  by_cases h12 : x1 = 11
  ·
    refine px_table (tgt := 161) dX9_about_1 160 (by rw [h12]; decide) (by decide) ?_
    refine px_aload_n dX9_about_161 rfl rfl ?_
    refine px_getR (v := t.1) dX9_about_162 fr_9_20 rfl (px_sh1 hw sh_1) (px_rf hw rf_1_2) ht1.ne ?_
    refine px_getR (v := (t.1 + 10)) dX9_about_165 fr_9_160 rfl (px_sh1 hw ht1.sh) (px_rf hw ht1.rf15) (Nat.succ_ne_zero _) ?_
    refine px_getI dX9_about_168 fr_9_342 rfl (px_sh1 hw ht1.is10.sh) ?_
    exact px_ireturn dX9_about_171 rfl rfl (k12 h1 h2 h3 h4 h5 h6 h7 h8 h9 h10 h11 h12)
  by_cases h13 : x1 = 12
  ·
    refine px_table (tgt := 172) dX9_about_1 171 (by rw [h13]; decide) (by decide) ?_
    refine px_aload_n dX9_about_172 rfl rfl ?_
    refine px_getI dX9_about_173 fr_9_82 rfl (px_sh1 hw sh_1) ?_
    exact px_ireturn dX9_about_176 rfl rfl (k13 h1 h2 h3 h4 h5 h6 h7 h8 h9 h10 h11 h12 h13)
  by_cases h14 : x1 = 13
  ·
    refine px_table (tgt := 177) dX9_about_1 176 (by rw [h14]; decide) (by decide) ?_
    refine px_aload_n dX9_about_177 rfl rfl ?_
    refine px_getR (v := t.1) dX9_about_178 fr_9_20 rfl (px_sh1 hw sh_1) (px_rf hw rf_1_2) ht1.ne ?_
    refine px_getI dX9_about_181 fr_9_345 rfl (px_sh1 hw ht1.sh) ?_
    exact px_ireturn dX9_about_184 rfl rfl (k14 h1 h2 h3 h4 h5 h6 h7 h8 h9 h10 h11 h12 h13 h14)
  by_cases h15 : x1 = 14
  ·
    refine px_table (tgt := 185) dX9_about_1 184 (by rw [h15]; decide) (by decide) ?_
    refine px_aload_n dX9_about_185 rfl rfl ?_
    refine px_getR (v := t.1) dX9_about_186 fr_9_20 rfl (px_sh1 hw sh_1) (px_rf hw rf_1_2) ht1.ne ?_
    refine px_getI dX9_about_189 fr_9_292 rfl (px_sh1 hw ht1.sh) ?_
    exact px_ireturn dX9_about_192 rfl rfl (k15 h1 h2 h3 h4 h5 h6 h7 h8 h9 h10 h11 h12 h13 h14 h15)
  refine px_table (tgt := 193) dX9_about_1 192 (by have a0 := lv_neT h1 (show (0 : Int32).toInt = 0 from by decide); have a1 := lv_neT h2 (show (1 : Int32).toInt = 1 from by decide); have a2 := lv_neT h3 (show (2 : Int32).toInt = 2 from by decide); have a3 := lv_neT h4 (show (3 : Int32).toInt = 3 from by decide); have a4 := lv_neT h5 (show (4 : Int32).toInt = 4 from by decide); have a5 := lv_neT h6 (show (5 : Int32).toInt = 5 from by decide); have a6 := lv_neT h7 (show (6 : Int32).toInt = 6 from by decide); have a7 := lv_neT h8 (show (7 : Int32).toInt = 7 from by decide); have a8 := lv_neT h9 (show (8 : Int32).toInt = 8 from by decide); have a9 := lv_neT h10 (show (9 : Int32).toInt = 9 from by decide); have a10 := lv_neT h11 (show (10 : Int32).toInt = 10 from by decide); have a11 := lv_neT h12 (show (11 : Int32).toInt = 11 from by decide); have a12 := lv_neT h13 (show (12 : Int32).toInt = 12 from by decide); have a13 := lv_neT h14 (show (13 : Int32).toInt = 13 from by decide); have a14 := lv_neT h15 (show (14 : Int32).toInt = 14 from by decide); rw [if_pos (by omega)]) (by decide) ?_
  refine px_iconst dX9_about_193 ic_m1 ?_
  exact px_ireturn dX9_about_194 rfl rfl (k16 h1 h2 h3 h4 h5 h6 h7 h8 h9 h10 h11 h12 h13 h14 h15)
theorem eX9_about {E : px_E} {d : Nat} {w : pw_W} {Q : Option Value → pw_W → Prop} {t : ct_T} (hw : w.1 = cs t) {x1 : Int32} (ht1 : is_Hamlet t.1) 
    (k1 : x1 = 0 → Q (some (.int (pw_I w t.1 0))) w)
    (k2 : ¬ x1 = 0 → x1 = 1 → Q (some (.int (pw_I w t.1 4))) w)
    (k3 : ¬ x1 = 0 → ¬ x1 = 1 → x1 = 2 → Q (some (.int (pw_I w t.1 8))) w)
    (k4 : ¬ x1 = 0 → ¬ x1 = 1 → ¬ x1 = 2 → x1 = 3 → Q (some (.int (pw_I w 35 2))) w)
    (k5 : ¬ x1 = 0 → ¬ x1 = 1 → ¬ x1 = 2 → ¬ x1 = 3 → x1 = 4 → Q (some (.int (pw_I w 35 3))) w)
    (k6 : ¬ x1 = 0 → ¬ x1 = 1 → ¬ x1 = 2 → ¬ x1 = 3 → ¬ x1 = 4 → x1 = 5 → Q (some (.int (pw_I w 35 4))) w)
    (k7 : ¬ x1 = 0 → ¬ x1 = 1 → ¬ x1 = 2 → ¬ x1 = 3 → ¬ x1 = 4 → ¬ x1 = 5 → x1 = 6 → Q (some (.int (hX3_undoable w))) w)
    (k8 : ¬ x1 = 0 → ¬ x1 = 1 → ¬ x1 = 2 → ¬ x1 = 3 → ¬ x1 = 4 → ¬ x1 = 5 → ¬ x1 = 6 → x1 = 7 → Q (some (.int (hX3_redoable w))) w)
    (k9 : ¬ x1 = 0 → ¬ x1 = 1 → ¬ x1 = 2 → ¬ x1 = 3 → ¬ x1 = 4 → ¬ x1 = 5 → ¬ x1 = 6 → ¬ x1 = 7 → x1 = 8 → Q (some (.int (pw_I w 48 10))) w)
    (k10 : ¬ x1 = 0 → ¬ x1 = 1 → ¬ x1 = 2 → ¬ x1 = 3 → ¬ x1 = 4 → ¬ x1 = 5 → ¬ x1 = 6 → ¬ x1 = 7 → ¬ x1 = 8 → x1 = 9 → Q (some (.int (pw_I w 48 11))) w)
    (k11 : ¬ x1 = 0 → ¬ x1 = 1 → ¬ x1 = 2 → ¬ x1 = 3 → ¬ x1 = 4 → ¬ x1 = 5 → ¬ x1 = 6 → ¬ x1 = 7 → ¬ x1 = 8 → ¬ x1 = 9 → x1 = 10 → Q (some (.int (pw_I w 1 1))) w)
    (k12 : ¬ x1 = 0 → ¬ x1 = 1 → ¬ x1 = 2 → ¬ x1 = 3 → ¬ x1 = 4 → ¬ x1 = 5 → ¬ x1 = 6 → ¬ x1 = 7 → ¬ x1 = 8 → ¬ x1 = 9 → ¬ x1 = 10 → x1 = 11 → Q (some (.int (pw_I w (t.1 + 10) 3))) w)
    (k13 : ¬ x1 = 0 → ¬ x1 = 1 → ¬ x1 = 2 → ¬ x1 = 3 → ¬ x1 = 4 → ¬ x1 = 5 → ¬ x1 = 6 → ¬ x1 = 7 → ¬ x1 = 8 → ¬ x1 = 9 → ¬ x1 = 10 → ¬ x1 = 11 → x1 = 12 → Q (some (.int (pw_I w 1 14))) w)
    (k14 : ¬ x1 = 0 → ¬ x1 = 1 → ¬ x1 = 2 → ¬ x1 = 3 → ¬ x1 = 4 → ¬ x1 = 5 → ¬ x1 = 6 → ¬ x1 = 7 → ¬ x1 = 8 → ¬ x1 = 9 → ¬ x1 = 10 → ¬ x1 = 11 → ¬ x1 = 12 → x1 = 13 → Q (some (.int (pw_I w t.1 12))) w)
    (k15 : ¬ x1 = 0 → ¬ x1 = 1 → ¬ x1 = 2 → ¬ x1 = 3 → ¬ x1 = 4 → ¬ x1 = 5 → ¬ x1 = 6 → ¬ x1 = 7 → ¬ x1 = 8 → ¬ x1 = 9 → ¬ x1 = 10 → ¬ x1 = 11 → ¬ x1 = 12 → ¬ x1 = 13 → x1 = 14 → Q (some (.int (pw_I w t.1 13))) w)
    (k16 : ¬ x1 = 0 → ¬ x1 = 1 → ¬ x1 = 2 → ¬ x1 = 3 → ¬ x1 = 4 → ¬ x1 = 5 → ¬ x1 = 6 → ¬ x1 = 7 → ¬ x1 = 8 → ¬ x1 = 9 → ¬ x1 = 10 → ¬ x1 = 11 → ¬ x1 = 12 → ¬ x1 = 13 → ¬ x1 = 14 → Q (some (.int (-1))) w) :
    px_Call E (d + 2) 0 0 mX9_about [.ref 1, .int x1] w Q :=
  px_enter (k := 0) (by decide) (Nat.le_of_ble_eq_true rfl) rfl (px_forget (bX9_about_0 hw ht1 k1 k2 k3 k4 k5 k6 k7 k8 k9 k10 k11 k12 k13 k14 k15 k16) ⟨Or.inr rfl, Or.inr rfl, trivial⟩)
theorem dX9_putFour_0 : decode mX9_putFour.2.1 0 = .ok (.bipush 24, 2) := by decide +kernel
theorem dX9_putFour_2 : decode mX9_putFour.2.1 2 = .ok (.istore_n 2, 1) := by decide +kernel
theorem dX9_putFour_3 : decode mX9_putFour.2.1 3 = .ok (.iload_n 2, 1) := by decide +kernel
theorem dX9_putFour_4 : decode mX9_putFour.2.1 4 = .ok (.ifCond .lt 42, 3) := by decide +kernel
theorem dX9_putFour_7 : decode mX9_putFour.2.1 7 = .ok (.aload_n 0, 1) := by decide +kernel
theorem dX9_putFour_8 : decode mX9_putFour.2.1 8 = .ok (.getfield 13, 3) := by decide +kernel
theorem dX9_putFour_11 : decode mX9_putFour.2.1 11 = .ok (.sipush 1600, 3) := by decide +kernel
theorem dX9_putFour_14 : decode mX9_putFour.2.1 14 = .ok (.if_icmp .ge 32, 3) := by decide +kernel
theorem dX9_putFour_17 : decode mX9_putFour.2.1 17 = .ok (.aload_n 0, 1) := by decide +kernel
theorem dX9_putFour_18 : decode mX9_putFour.2.1 18 = .ok (.getfield 9, 3) := by decide +kernel
theorem dX9_putFour_21 : decode mX9_putFour.2.1 21 = .ok (.aload_n 0, 1) := by decide +kernel
theorem dX9_putFour_22 : decode mX9_putFour.2.1 22 = .ok (.getfield 13, 3) := by decide +kernel
theorem dX9_putFour_25 : decode mX9_putFour.2.1 25 = .ok (.iload_n 1, 1) := by decide +kernel
theorem dX9_putFour_26 : decode mX9_putFour.2.1 26 = .ok (.iload_n 2, 1) := by decide +kernel
theorem dX9_putFour_27 : decode mX9_putFour.2.1 27 = .ok (.ishr, 1) := by decide +kernel
theorem dX9_putFour_28 : decode mX9_putFour.2.1 28 = .ok (.i2b, 1) := by decide +kernel
theorem dX9_putFour_29 : decode mX9_putFour.2.1 29 = .ok (.bastore, 1) := by decide +kernel
theorem dX9_putFour_30 : decode mX9_putFour.2.1 30 = .ok (.aload_n 0, 1) := by decide +kernel
theorem dX9_putFour_31 : decode mX9_putFour.2.1 31 = .ok (.dup, 1) := by decide +kernel
theorem dX9_putFour_32 : decode mX9_putFour.2.1 32 = .ok (.getfield 13, 3) := by decide +kernel
theorem dX9_putFour_35 : decode mX9_putFour.2.1 35 = .ok (.iconst 1, 1) := by decide +kernel
theorem dX9_putFour_36 : decode mX9_putFour.2.1 36 = .ok (.iadd, 1) := by decide +kernel
theorem dX9_putFour_37 : decode mX9_putFour.2.1 37 = .ok (.putfield 13, 3) := by decide +kernel
theorem dX9_putFour_40 : decode mX9_putFour.2.1 40 = .ok (.iinc 2 (-8), 3) := by decide +kernel
theorem dX9_putFour_43 : decode mX9_putFour.2.1 43 = .ok (.goto (-40), 3) := by decide +kernel
theorem dX9_putFour_46 : decode mX9_putFour.2.1 46 = .ok (.return_, 1) := by decide +kernel
theorem bX9_putFour_0 {E : px_E} {d : Nat} {w : pw_W} {Q : Option Value → pw_W → Prop} {t : ct_T} (hw : w.1 = cs t) {x1 : Int32}  
    (k1 : px_W E mX9_putFour (d + 1) 0 0 3 [.ref 1, .int x1, .int 24] [] w Q) :
    px_W E mX9_putFour (d + 1) 0 0 0 [.ref 1, .int x1, .null] [] w Q := by
  refine px_bipush dX9_putFour_0 bp_24 ?_
  refine px_istore_n (ls' := [.ref 1, .int x1, .int 24]) dX9_putFour_2 rfl ⟨by decide, rfl⟩ rfl ?_
  exact k1
theorem eX9_putFour {E : px_E} {d : Nat} {w : pw_W} {Q : Option Value → pw_W → Prop} {t : ct_T} (hw : w.1 = cs t) {x1 : Int32}  
    (k1 : px_W E mX9_putFour (d + 1) 0 0 3 [.ref 1, .int x1, .int 24] [] w Q) :
    px_Call E (d + 1) 0 0 mX9_putFour [.ref 1, .int x1] w Q :=
  px_enter (k := 1) (by decide) (Nat.le_of_ble_eq_true rfl) rfl (px_forget (bX9_putFour_0 hw k1) ⟨Or.inr rfl, Or.inr rfl, Or.inl rfl, trivial⟩)
theorem bX9_putFour_3 {E : px_E} {d : Nat} {w : pw_W} {Q : Option Value → pw_W → Prop} {t : ct_T} (hw : w.1 = cs t) {x1 x2 : Int32}  
    (k1 : x2 < 0 → px_W E mX9_putFour (d + 1) 0 0 46 [.null, .null, .null] [] w Q)
    (k2 : ¬ x2 < 0 → 1600 ≤ (pw_I w 1 1) → px_W E mX9_putFour (d + 1) 0 0 46 [.null, .null, .null] [] w Q)
    (k3 : ¬ x2 < 0 → ¬ 1600 ≤ (pw_I w 1 1) → px_W E mX9_putFour (d + 1) 0 0 17 [.ref 1, .int x1, .int x2] [] w Q) :
    px_W E mX9_putFour (d + 1) 0 0 3 [.ref 1, .int x1, .int x2] [] w Q := by
  refine px_iload_n dX9_putFour_3 rfl rfl ?_
  refine px_if_lt (tgt := 46) dX9_putFour_4 (by decide) (fun h1 => ?_) (fun h1 => ?_)
  ·
    exact px_forget (k1 h1) ⟨Or.inl rfl, Or.inl rfl, Or.inl rfl, trivial⟩
  ·
    refine px_aload_n dX9_putFour_7 rfl rfl ?_
    refine px_getI dX9_putFour_8 fr_9_13 rfl (px_sh1 hw sh_1) ?_
    refine px_sipush dX9_putFour_11 sp_1600 ?_
    refine px_icmp_ge (tgt := 46) dX9_putFour_14 (by decide) (fun h2 => ?_) (fun h2 => ?_)
    ·
      exact px_forget (k2 h1 h2) ⟨Or.inl rfl, Or.inl rfl, Or.inl rfl, trivial⟩
    ·
      exact (k3 h1 h2)
theorem bX9_putFour_17 {E : px_E} {d : Nat} {w : pw_W} {Q : Option Value → pw_W → Prop} {t : ct_T} (hw : w.1 = cs t) {x1 x2 : Int32}  (j1 : Nat) (hj1 : (pw_I w 1 1) = nI j1) (hl1 : j1 < 1600)
    (k1 : px_W E mX9_putFour (d + 1) 0 0 3 [.ref 1, .int x1, .int (x2 + (-8))] [] (pw_sI (pw_sI w 2 j1 (js_i2b (js_i2b (js_shr x1 x2)))) 1 1 ((pw_I w 1 1) + 1)) Q) :
    px_W E mX9_putFour (d + 1) 0 0 17 [.ref 1, .int x1, .int x2] [] w Q := by
  refine px_aload_n dX9_putFour_17 rfl rfl ?_
  refine px_getR (v := 2) dX9_putFour_18 fr_9_9 rfl (px_sh1 hw sh_1) (px_rf hw rf_1_0) (by decide) ?_
  refine px_aload_n dX9_putFour_21 rfl rfl ?_
  refine px_getI dX9_putFour_22 fr_9_13 rfl (px_sh1 hw sh_1) ?_
  refine px_iload_n dX9_putFour_25 rfl rfl ?_
  refine px_iload_n dX9_putFour_26 rfl rfl ?_
  refine px_ishr dX9_putFour_27 ?_
  refine px_i2b dX9_putFour_28 ?_
  refine px_bast dX9_putFour_29 (px_sh2 hw sh_2) (by decide) j1 hj1 hl1 (by omega) ?_
  refine px_aload_n dX9_putFour_30 rfl rfl ?_
  refine px_dup dX9_putFour_31 rfl ?_
  refine px_getIv (v := (pw_I w 1 1)) dX9_putFour_32 fr_9_13 rfl (px_sh1 (hI hw) sh_1) rfl ?_
  refine px_iconst dX9_putFour_35 ic_1 ?_
  refine px_iadd dX9_putFour_36 ?_
  refine px_putI dX9_putFour_37 fl_9_13 (Or.inl rfl) rfl (px_sh1 (hI hw) sh_1) rfl rfl (by omega) ?_
  refine px_iinc (ls' := [.ref 1, .int x1, .int (x2 + (-8))]) dX9_putFour_40 ⟨by decide, rfl⟩ rfl rfl rfl ?_
  refine px_goto (tgt := 3) dX9_putFour_43 (by decide) ?_
  exact k1
theorem bX9_putFour_46 {E : px_E} {d : Nat} {w : pw_W} {Q : Option Value → pw_W → Prop} {t : ct_T} (hw : w.1 = cs t)  
    (k1 : Q none w) :
    px_W E mX9_putFour (d + 1) 0 0 46 [.null, .null, .null] [] w Q := by
  exact px_return dX9_putFour_46 rfl k1
theorem dX9_turnForbidden_0 : decode mX9_turnForbidden.2.1 0 = .ok (.aload_n 0, 1) := by decide +kernel
theorem dX9_turnForbidden_1 : decode mX9_turnForbidden.2.1 1 = .ok (.getfield 40, 3) := by decide +kernel
theorem dX9_turnForbidden_4 : decode mX9_turnForbidden.2.1 4 = .ok (.dup, 1) := by decide +kernel
theorem dX9_turnForbidden_5 : decode mX9_turnForbidden.2.1 5 = .ok (.getfield 240, 3) := by decide +kernel
theorem dX9_turnForbidden_8 : decode mX9_turnForbidden.2.1 8 = .ok (.iconst 1, 1) := by decide +kernel
theorem dX9_turnForbidden_9 : decode mX9_turnForbidden.2.1 9 = .ok (.iload_n 1, 1) := by decide +kernel
theorem dX9_turnForbidden_10 : decode mX9_turnForbidden.2.1 10 = .ok (.ishl, 1) := by decide +kernel
theorem dX9_turnForbidden_11 : decode mX9_turnForbidden.2.1 11 = .ok (.ixor, 1) := by decide +kernel
theorem dX9_turnForbidden_12 : decode mX9_turnForbidden.2.1 12 = .ok (.putfield 240, 3) := by decide +kernel
theorem dX9_turnForbidden_15 : decode mX9_turnForbidden.2.1 15 = .ok (.aload_n 0, 1) := by decide +kernel
theorem dX9_turnForbidden_16 : decode mX9_turnForbidden.2.1 16 = .ok (.getfield 47, 3) := by decide +kernel
theorem dX9_turnForbidden_19 : decode mX9_turnForbidden.2.1 19 = .ok (.aload_n 0, 1) := by decide +kernel
theorem dX9_turnForbidden_20 : decode mX9_turnForbidden.2.1 20 = .ok (.getfield 40, 3) := by decide +kernel
theorem dX9_turnForbidden_23 : decode mX9_turnForbidden.2.1 23 = .ok (.invokevirtual 181, 3) := by decide +kernel
theorem dX9_turnForbidden_26 : decode mX9_turnForbidden.2.1 26 = .ok (.aload_n 0, 1) := by decide +kernel
theorem dX9_turnForbidden_27 : decode mX9_turnForbidden.2.1 27 = .ok (.getfield 40, 3) := by decide +kernel
theorem dX9_turnForbidden_30 : decode mX9_turnForbidden.2.1 30 = .ok (.getfield 240, 3) := by decide +kernel
theorem dX9_turnForbidden_33 : decode mX9_turnForbidden.2.1 33 = .ok (.ireturn, 1) := by decide +kernel
theorem bX9_turnForbidden_0 {E : px_E} {d : Nat} {w : pw_W} {Q : Option Value → pw_W → Prop} {t : ct_T} (hw : w.1 = cs t) {x1 : Int32}  
    (k1 : px_Call E d 0 0 mX3_keepAct [.ref 38, .ref 35] (pw_sI w 35 2 ((pw_I w 35 2) ^^^ (js_shl 1 x1))) (fun v w' => px_W E mX9_turnForbidden (d + 1) 0 0 26 [.ref 1, .null] (v.toList ++ []) w' Q)) :
    px_W E mX9_turnForbidden (d + 1) 0 0 0 [.ref 1, .int x1] [] w Q := by
  refine px_aload_n dX9_turnForbidden_0 rfl rfl ?_
  refine px_getR (v := 35) dX9_turnForbidden_1 fr_9_40 rfl (px_sh1 hw sh_1) (px_rf hw rf_1_6) (by decide) ?_
  refine px_dup dX9_turnForbidden_4 rfl ?_
  refine px_getI dX9_turnForbidden_5 fr_9_240 rfl (px_sh1 hw sh_35) ?_
  refine px_iconst dX9_turnForbidden_8 ic_1 ?_
  refine px_iload_n dX9_turnForbidden_9 rfl rfl ?_
  refine px_ishl dX9_turnForbidden_10 ?_
  refine px_ixor dX9_turnForbidden_11 ?_
  refine px_putI dX9_turnForbidden_12 fl_9_240 (Or.inl rfl) rfl (px_sh1 hw sh_35) rfl rfl (by omega) ?_
  refine px_aload_n dX9_turnForbidden_15 rfl rfl ?_
  refine px_getR (v := 38) dX9_turnForbidden_16 fr_9_47 rfl (px_sh1 (hI hw) sh_1) (px_rf (hI hw) rf_1_7) (by decide) ?_
  refine px_aload_n dX9_turnForbidden_19 rfl rfl ?_
  refine px_getR (v := 35) dX9_turnForbidden_20 fr_9_40 rfl (px_sh1 (hI hw) sh_1) (px_rf (hI hw) rf_1_6) (by decide) ?_
  refine px_forget (ls' := [.ref 1, .null]) ?_ ⟨Or.inr rfl, Or.inl rfl, trivial⟩
  exact px_callV (As := [.ref 35]) (st := []) (rc := 0) (rs := 0) (mc := 0) (ms := 0) dX9_turnForbidden_23 lk_9_181 (px_sh1 (hI hw) sh_38) rfl rfl (Nat.le_of_ble_eq_true rfl) k1
theorem eX9_turnForbidden {E : px_E} {d : Nat} {w : pw_W} {Q : Option Value → pw_W → Prop} {t : ct_T} (hw : w.1 = cs t) {x1 : Int32}  
    (k1 : px_Call E d 0 0 mX3_keepAct [.ref 38, .ref 35] (pw_sI w 35 2 ((pw_I w 35 2) ^^^ (js_shl 1 x1))) (fun v w' => px_W E mX9_turnForbidden (d + 1) 0 0 26 [.ref 1, .null] (v.toList ++ []) w' Q)) :
    px_Call E (d + 1) 0 0 mX9_turnForbidden [.ref 1, .int x1] w Q :=
  px_enter (k := 0) (by decide) (Nat.le_of_ble_eq_true rfl) rfl (px_forget (bX9_turnForbidden_0 hw k1) ⟨Or.inr rfl, Or.inr rfl, trivial⟩)
theorem bX9_turnForbidden_26 {E : px_E} {d : Nat} {w : pw_W} {Q : Option Value → pw_W → Prop} {t : ct_T} (hw : w.1 = cs t)  
    (k1 : Q (some (.int (pw_I w 35 2))) w) :
    px_W E mX9_turnForbidden (d + 1) 0 0 26 [.ref 1, .null] [] w Q := by
  refine px_aload_n dX9_turnForbidden_26 rfl rfl ?_
  refine px_getR (v := 35) dX9_turnForbidden_27 fr_9_40 rfl (px_sh1 hw sh_1) (px_rf hw rf_1_6) (by decide) ?_
  refine px_getI dX9_turnForbidden_30 fr_9_240 rfl (px_sh1 hw sh_35) ?_
  exact px_ireturn dX9_turnForbidden_33 rfl rfl k1
theorem dX9_chosen_0 : decode mX9_chosen.2.1 0 = .ok (.aload_n 0, 1) := by decide +kernel
theorem dX9_chosen_1 : decode mX9_chosen.2.1 1 = .ok (.getfield 61, 3) := by decide +kernel
theorem dX9_chosen_4 : decode mX9_chosen.2.1 4 = .ok (.getfield 348, 3) := by decide +kernel
theorem dX9_chosen_7 : decode mX9_chosen.2.1 7 = .ok (.iconst (-1), 1) := by decide +kernel
theorem dX9_chosen_8 : decode mX9_chosen.2.1 8 = .ok (.if_icmp .ne 5, 3) := by decide +kernel
theorem dX9_chosen_11 : decode mX9_chosen.2.1 11 = .ok (.iconst (-1), 1) := by decide +kernel
theorem dX9_chosen_12 : decode mX9_chosen.2.1 12 = .ok (.ireturn, 1) := by decide +kernel
theorem dX9_chosen_13 : decode mX9_chosen.2.1 13 = .ok (.iload_n 1, 1) := by decide +kernel
theorem dX9_chosen_14 : decode mX9_chosen.2.1 14 = .ok (.ifCond .ne 13, 3) := by decide +kernel
theorem dX9_chosen_17 : decode mX9_chosen.2.1 17 = .ok (.aload_n 0, 1) := by decide +kernel
theorem dX9_chosen_18 : decode mX9_chosen.2.1 18 = .ok (.getfield 61, 3) := by decide +kernel
theorem dX9_chosen_21 : decode mX9_chosen.2.1 21 = .ok (.getfield 348, 3) := by decide +kernel
theorem dX9_chosen_24 : decode mX9_chosen.2.1 24 = .ok (.goto 10, 3) := by decide +kernel
theorem dX9_chosen_27 : decode mX9_chosen.2.1 27 = .ok (.aload_n 0, 1) := by decide +kernel
theorem dX9_chosen_28 : decode mX9_chosen.2.1 28 = .ok (.getfield 61, 3) := by decide +kernel
theorem dX9_chosen_31 : decode mX9_chosen.2.1 31 = .ok (.getfield 350, 3) := by decide +kernel
theorem dX9_chosen_34 : decode mX9_chosen.2.1 34 = .ok (.ireturn, 1) := by decide +kernel
theorem bX9_chosen_0 {E : px_E} {d : Nat} {w : pw_W} {Q : Option Value → pw_W → Prop} {t : ct_T} (hw : w.1 = cs t) {x1 : Int32}  
    (k1 : ¬ (pw_I w 41 2) = (-1) → ¬ x1 = 0 → px_W E mX9_chosen (d + 1) 0 0 34 [.null, .null] [.int (pw_I w 41 3)] w Q)
    (k2 : ¬ (pw_I w 41 2) = (-1) → x1 = 0 → px_W E mX9_chosen (d + 1) 0 0 34 [.null, .null] [.int (pw_I w 41 2)] w Q)
    (k3 : (pw_I w 41 2) = (-1) → Q (some (.int (-1))) w) :
    px_W E mX9_chosen (d + 1) 0 0 0 [.ref 1, .int x1] [] w Q := by
  refine px_aload_n dX9_chosen_0 rfl rfl ?_
  refine px_getR (v := 41) dX9_chosen_1 fr_9_61 rfl (px_sh1 hw sh_1) (px_rf hw rf_1_10) (by decide) ?_
  refine px_getI dX9_chosen_4 fr_9_348 rfl (px_sh1 hw sh_41) ?_
  refine px_iconst dX9_chosen_7 ic_m1 ?_
  refine px_icmp_ne (tgt := 13) dX9_chosen_8 (by decide) (fun h1 => ?_) (fun h1 => ?_)
  ·
    refine px_iload_n dX9_chosen_13 rfl rfl ?_
    refine px_if_ne (tgt := 27) dX9_chosen_14 (by decide) (fun h2 => ?_) (fun h2 => ?_)
    ·
      refine px_aload_n dX9_chosen_27 rfl rfl ?_
      refine px_getR (v := 41) dX9_chosen_28 fr_9_61 rfl (px_sh1 hw sh_1) (px_rf hw rf_1_10) (by decide) ?_
      refine px_getI dX9_chosen_31 fr_9_350 rfl (px_sh1 hw sh_41) ?_
      exact px_forget (k1 h1 h2) ⟨Or.inl rfl, Or.inl rfl, trivial⟩
    ·
      refine px_aload_n dX9_chosen_17 rfl rfl ?_
      refine px_getR (v := 41) dX9_chosen_18 fr_9_61 rfl (px_sh1 hw sh_1) (px_rf hw rf_1_10) (by decide) ?_
      refine px_getI dX9_chosen_21 fr_9_348 rfl (px_sh1 hw sh_41) ?_
      refine px_goto (tgt := 34) dX9_chosen_24 (by decide) ?_
      exact px_forget (k2 h1 h2) ⟨Or.inl rfl, Or.inl rfl, trivial⟩
  ·
    refine px_iconst dX9_chosen_11 ic_m1 ?_
    exact px_ireturn dX9_chosen_12 rfl rfl (k3 h1)
theorem eX9_chosen {E : px_E} {d : Nat} {w : pw_W} {Q : Option Value → pw_W → Prop} {t : ct_T} (hw : w.1 = cs t) {x1 : Int32}  
    (k1 : ¬ (pw_I w 41 2) = (-1) → ¬ x1 = 0 → px_W E mX9_chosen (d + 1) 0 0 34 [.null, .null] [.int (pw_I w 41 3)] w Q)
    (k2 : ¬ (pw_I w 41 2) = (-1) → x1 = 0 → px_W E mX9_chosen (d + 1) 0 0 34 [.null, .null] [.int (pw_I w 41 2)] w Q)
    (k3 : (pw_I w 41 2) = (-1) → Q (some (.int (-1))) w) :
    px_Call E (d + 1) 0 0 mX9_chosen [.ref 1, .int x1] w Q :=
  px_enter (k := 0) (by decide) (Nat.le_of_ble_eq_true rfl) rfl (px_forget (bX9_chosen_0 hw k1 k2 k3) ⟨Or.inr rfl, Or.inr rfl, trivial⟩)
theorem bX9_chosen_34 {E : px_E} {d : Nat} {w : pw_W} {Q : Option Value → pw_W → Prop} {t : ct_T} (hw : w.1 = cs t) {y0 : Int32}  
    (k1 : Q (some (.int y0)) w) :
    px_W E mX9_chosen (d + 1) 0 0 34 [.null, .null] [.int y0] w Q := by
  exact px_ireturn dX9_chosen_34 rfl rfl k1
theorem dX9_firstGreatest_0 : decode mX9_firstGreatest.2.1 0 = .ok (.iconst (-1), 1) := by decide +kernel
theorem dX9_firstGreatest_1 : decode mX9_firstGreatest.2.1 1 = .ok (.istore_n 2, 1) := by decide +kernel
theorem dX9_firstGreatest_2 : decode mX9_firstGreatest.2.1 2 = .ok (.iconst (-1), 1) := by decide +kernel
theorem dX9_firstGreatest_3 : decode mX9_firstGreatest.2.1 3 = .ok (.istore_n 3, 1) := by decide +kernel
theorem dX9_firstGreatest_4 : decode mX9_firstGreatest.2.1 4 = .ok (.iconst 0, 1) := by decide +kernel
theorem dX9_firstGreatest_5 : decode mX9_firstGreatest.2.1 5 = .ok (.istore 4, 2) := by decide +kernel
theorem dX9_firstGreatest_7 : decode mX9_firstGreatest.2.1 7 = .ok (.iload 4, 2) := by decide +kernel
theorem dX9_firstGreatest_9 : decode mX9_firstGreatest.2.1 9 = .ok (.aload_n 0, 1) := by decide +kernel
theorem dX9_firstGreatest_10 : decode mX9_firstGreatest.2.1 10 = .ok (.getfield 20, 3) := by decide +kernel
theorem dX9_firstGreatest_13 : decode mX9_firstGreatest.2.1 13 = .ok (.getfield 110, 3) := by decide +kernel
theorem dX9_firstGreatest_16 : decode mX9_firstGreatest.2.1 16 = .ok (.if_icmp .ge 32, 3) := by decide +kernel
theorem dX9_firstGreatest_19 : decode mX9_firstGreatest.2.1 19 = .ok (.iload 4, 2) := by decide +kernel
theorem dX9_firstGreatest_21 : decode mX9_firstGreatest.2.1 21 = .ok (.aload_n 1, 1) := by decide +kernel
theorem dX9_firstGreatest_22 : decode mX9_firstGreatest.2.1 22 = .ok (.arraylength, 1) := by decide +kernel
theorem dX9_firstGreatest_23 : decode mX9_firstGreatest.2.1 23 = .ok (.if_icmp .ge 25, 3) := by decide +kernel
theorem dX9_firstGreatest_26 : decode mX9_firstGreatest.2.1 26 = .ok (.aload_n 1, 1) := by decide +kernel
theorem dX9_firstGreatest_27 : decode mX9_firstGreatest.2.1 27 = .ok (.iload 4, 2) := by decide +kernel
theorem dX9_firstGreatest_29 : decode mX9_firstGreatest.2.1 29 = .ok (.iaload, 1) := by decide +kernel
theorem dX9_firstGreatest_30 : decode mX9_firstGreatest.2.1 30 = .ok (.iload_n 3, 1) := by decide +kernel
theorem dX9_firstGreatest_31 : decode mX9_firstGreatest.2.1 31 = .ok (.if_icmp .le 11, 3) := by decide +kernel
theorem dX9_firstGreatest_34 : decode mX9_firstGreatest.2.1 34 = .ok (.iload 4, 2) := by decide +kernel
theorem dX9_firstGreatest_36 : decode mX9_firstGreatest.2.1 36 = .ok (.istore_n 2, 1) := by decide +kernel
theorem dX9_firstGreatest_37 : decode mX9_firstGreatest.2.1 37 = .ok (.aload_n 1, 1) := by decide +kernel
theorem dX9_firstGreatest_38 : decode mX9_firstGreatest.2.1 38 = .ok (.iload 4, 2) := by decide +kernel
theorem dX9_firstGreatest_40 : decode mX9_firstGreatest.2.1 40 = .ok (.iaload, 1) := by decide +kernel
theorem dX9_firstGreatest_41 : decode mX9_firstGreatest.2.1 41 = .ok (.istore_n 3, 1) := by decide +kernel
theorem dX9_firstGreatest_42 : decode mX9_firstGreatest.2.1 42 = .ok (.iinc 4 1, 3) := by decide +kernel
theorem dX9_firstGreatest_45 : decode mX9_firstGreatest.2.1 45 = .ok (.goto (-38), 3) := by decide +kernel
theorem dX9_firstGreatest_48 : decode mX9_firstGreatest.2.1 48 = .ok (.iload_n 2, 1) := by decide +kernel
theorem dX9_firstGreatest_49 : decode mX9_firstGreatest.2.1 49 = .ok (.ireturn, 1) := by decide +kernel
theorem bX9_firstGreatest_0 {E : px_E} {d : Nat} {w : pw_W} {Q : Option Value → pw_W → Prop} {t : ct_T} (hw : w.1 = cs t) {r1 n1 : Nat} (hs1 : (cs t).2.1 r1 = (100, n1)) (hn1 : n1 < 2 ^ 31) (ht1 : is_Hamlet t.1) 
    (k1 : px_W E mX9_firstGreatest (d + 1) 0 0 7 [.ref 1, .ref r1, .int (-1), .int (-1), .int 0] [] w Q) :
    px_W E mX9_firstGreatest (d + 1) 0 0 0 [.ref 1, .ref r1, .null, .null, .null] [] w Q := by
  refine px_iconst dX9_firstGreatest_0 ic_m1 ?_
  refine px_istore_n (ls' := [.ref 1, .ref r1, .int (-1), .null, .null]) dX9_firstGreatest_1 rfl ⟨by decide, rfl⟩ rfl ?_
  refine px_iconst dX9_firstGreatest_2 ic_m1 ?_
  refine px_istore_n (ls' := [.ref 1, .ref r1, .int (-1), .int (-1), .null]) dX9_firstGreatest_3 rfl ⟨by decide, rfl⟩ rfl ?_
  refine px_iconst dX9_firstGreatest_4 ic_0 ?_
  refine px_istore (ls' := [.ref 1, .ref r1, .int (-1), .int (-1), .int 0]) dX9_firstGreatest_5 ⟨by decide, rfl⟩ rfl ?_
  exact k1
theorem eX9_firstGreatest {E : px_E} {d : Nat} {w : pw_W} {Q : Option Value → pw_W → Prop} {t : ct_T} (hw : w.1 = cs t) {r1 n1 : Nat} (hs1 : (cs t).2.1 r1 = (100, n1)) (hn1 : n1 < 2 ^ 31) (ht1 : is_Hamlet t.1) 
    (k1 : px_W E mX9_firstGreatest (d + 1) 0 0 7 [.ref 1, .ref r1, .int (-1), .int (-1), .int 0] [] w Q) :
    px_Call E (d + 1) 0 0 mX9_firstGreatest [.ref 1, .ref r1] w Q :=
  px_enter (k := 3) (by decide) (Nat.le_of_ble_eq_true rfl) rfl (px_forget (bX9_firstGreatest_0 hw hs1 hn1 ht1 k1) ⟨Or.inr rfl, Or.inr rfl, Or.inl rfl, Or.inl rfl, Or.inl rfl, trivial⟩)
theorem bX9_firstGreatest_7 {E : px_E} {d : Nat} {w : pw_W} {Q : Option Value → pw_W → Prop} {t : ct_T} (hw : w.1 = cs t) {x2 x3 x4 : Int32} {r1 n1 : Nat} (hs1 : (cs t).2.1 r1 = (100, n1)) (hn1 : n1 < 2 ^ 31) (ht1 : is_Hamlet t.1) 
    (k1 : (pw_I w t.1 0) ≤ x4 → px_W E mX9_firstGreatest (d + 1) 0 0 48 [.null, .null, .int x2, .null, .null] [] w Q)
    (k2 : ¬ (pw_I w t.1 0) ≤ x4 → (nI n1) ≤ x4 → px_W E mX9_firstGreatest (d + 1) 0 0 48 [.null, .null, .int x2, .null, .null] [] w Q)
    (k3 : ¬ (pw_I w t.1 0) ≤ x4 → ¬ (nI n1) ≤ x4 → px_W E mX9_firstGreatest (d + 1) 0 0 26 [.ref 1, .ref r1, .int x2, .int x3, .int x4] [] w Q) :
    px_W E mX9_firstGreatest (d + 1) 0 0 7 [.ref 1, .ref r1, .int x2, .int x3, .int x4] [] w Q := by
  refine px_iload dX9_firstGreatest_7 rfl ?_
  refine px_aload_n dX9_firstGreatest_9 rfl rfl ?_
  refine px_getR (v := t.1) dX9_firstGreatest_10 fr_9_20 rfl (px_sh1 hw sh_1) (px_rf hw rf_1_2) ht1.ne ?_
  refine px_getI dX9_firstGreatest_13 fr_9_110 rfl (px_sh1 hw ht1.sh) ?_
  refine px_icmp_ge (tgt := 48) dX9_firstGreatest_16 (by decide) (fun h1 => ?_) (fun h1 => ?_)
  ·
    exact px_forget (k1 h1) ⟨Or.inl rfl, Or.inl rfl, Or.inr rfl, Or.inl rfl, Or.inl rfl, trivial⟩
  ·
    refine px_iload dX9_firstGreatest_19 rfl ?_
    refine px_aload_n dX9_firstGreatest_21 rfl rfl ?_
    refine px_alen dX9_firstGreatest_22 (px_sh2 hw hs1) (by decide) rfl ?_
    refine px_icmp_ge (tgt := 48) dX9_firstGreatest_23 (by decide) (fun h2 => ?_) (fun h2 => ?_)
    ·
      exact px_forget (k2 h1 h2) ⟨Or.inl rfl, Or.inl rfl, Or.inr rfl, Or.inl rfl, Or.inl rfl, trivial⟩
    ·
      exact (k3 h1 h2)
theorem bX9_firstGreatest_26 {E : px_E} {d : Nat} {w : pw_W} {Q : Option Value → pw_W → Prop} {t : ct_T} (hw : w.1 = cs t) {x2 x3 x4 : Int32} {r1 n1 : Nat} (hs1 : (cs t).2.1 r1 = (100, n1)) (hn1 : n1 < 2 ^ 31) (ht1 : is_Hamlet t.1) (j1 : Nat) (hj1 : x4 = nI j1) (hl1 : j1 < n1)
    (k1 : (pw_I w r1 j1) ≤ x3 → px_W E mX9_firstGreatest (d + 1) 0 0 42 [.ref 1, .ref r1, .int x2, .int x3, .int x4] [] w Q)
    (k2 : ¬ (pw_I w r1 j1) ≤ x3 → px_W E mX9_firstGreatest (d + 1) 0 0 34 [.ref 1, .ref r1, .null, .null, .int x4] [] w Q) :
    px_W E mX9_firstGreatest (d + 1) 0 0 26 [.ref 1, .ref r1, .int x2, .int x3, .int x4] [] w Q := by
  refine px_aload_n dX9_firstGreatest_26 rfl rfl ?_
  refine px_iload dX9_firstGreatest_27 rfl ?_
  refine px_iald dX9_firstGreatest_29 (px_sh2 hw hs1) hn1 j1 hj1 hl1 ?_
  refine px_iload_n dX9_firstGreatest_30 rfl rfl ?_
  refine px_icmp_le (tgt := 42) dX9_firstGreatest_31 (by decide) (fun h1 => ?_) (fun h1 => ?_)
  ·
    exact (k1 h1)
  ·
    exact px_forget (k2 h1) ⟨Or.inr rfl, Or.inr rfl, Or.inl rfl, Or.inl rfl, Or.inr rfl, trivial⟩
theorem bX9_firstGreatest_34 {E : px_E} {d : Nat} {w : pw_W} {Q : Option Value → pw_W → Prop} {t : ct_T} (hw : w.1 = cs t) {x4 : Int32} {r1 n1 : Nat} (hs1 : (cs t).2.1 r1 = (100, n1)) (hn1 : n1 < 2 ^ 31) (ht1 : is_Hamlet t.1) (j1 : Nat) (hj1 : x4 = nI j1) (hl1 : j1 < n1)
    (k1 : px_W E mX9_firstGreatest (d + 1) 0 0 42 [.ref 1, .ref r1, .int x4, .int (pw_I w r1 j1), .int x4] [] w Q) :
    px_W E mX9_firstGreatest (d + 1) 0 0 34 [.ref 1, .ref r1, .null, .null, .int x4] [] w Q := by
  refine px_iload dX9_firstGreatest_34 rfl ?_
  refine px_istore_n (ls' := [.ref 1, .ref r1, .int x4, .null, .int x4]) dX9_firstGreatest_36 rfl ⟨by decide, rfl⟩ rfl ?_
  refine px_aload_n dX9_firstGreatest_37 rfl rfl ?_
  refine px_iload dX9_firstGreatest_38 rfl ?_
  refine px_iald dX9_firstGreatest_40 (px_sh2 hw hs1) hn1 j1 hj1 hl1 ?_
  refine px_istore_n (ls' := [.ref 1, .ref r1, .int x4, .int (pw_I w r1 j1), .int x4]) dX9_firstGreatest_41 rfl ⟨by decide, rfl⟩ rfl ?_
  exact k1
theorem bX9_firstGreatest_42 {E : px_E} {d : Nat} {w : pw_W} {Q : Option Value → pw_W → Prop} {t : ct_T} (hw : w.1 = cs t) {x2 x3 x4 : Int32} {r1 n1 : Nat} (hs1 : (cs t).2.1 r1 = (100, n1)) (hn1 : n1 < 2 ^ 31) (ht1 : is_Hamlet t.1) 
    (k1 : px_W E mX9_firstGreatest (d + 1) 0 0 7 [.ref 1, .ref r1, .int x2, .int x3, .int (x4 + 1)] [] w Q) :
    px_W E mX9_firstGreatest (d + 1) 0 0 42 [.ref 1, .ref r1, .int x2, .int x3, .int x4] [] w Q := by
  refine px_iinc (ls' := [.ref 1, .ref r1, .int x2, .int x3, .int (x4 + 1)]) dX9_firstGreatest_42 ⟨by decide, rfl⟩ rfl rfl rfl ?_
  refine px_goto (tgt := 7) dX9_firstGreatest_45 (by decide) ?_
  exact k1
theorem bX9_firstGreatest_48 {E : px_E} {d : Nat} {w : pw_W} {Q : Option Value → pw_W → Prop} {t : ct_T} (hw : w.1 = cs t) {x2 : Int32} {r1 n1 : Nat} (hs1 : (cs t).2.1 r1 = (100, n1)) (hn1 : n1 < 2 ^ 31) (ht1 : is_Hamlet t.1) 
    (k1 : Q (some (.int x2)) w) :
    px_W E mX9_firstGreatest (d + 1) 0 0 48 [.null, .null, .int x2, .null, .null] [] w Q := by
  refine px_iload_n dX9_firstGreatest_48 rfl rfl ?_
  exact px_ireturn dX9_firstGreatest_49 rfl rfl k1
theorem dX9_greatestDivisor_0 : decode mX9_greatestDivisor.2.1 0 = .ok (.iload_n 0, 1) := by decide +kernel
theorem dX9_greatestDivisor_1 : decode mX9_greatestDivisor.2.1 1 = .ok (.istore_n 2, 1) := by decide +kernel
theorem dX9_greatestDivisor_2 : decode mX9_greatestDivisor.2.1 2 = .ok (.iload_n 1, 1) := by decide +kernel
theorem dX9_greatestDivisor_3 : decode mX9_greatestDivisor.2.1 3 = .ok (.istore_n 3, 1) := by decide +kernel
theorem dX9_greatestDivisor_4 : decode mX9_greatestDivisor.2.1 4 = .ok (.iconst 0, 1) := by decide +kernel
theorem dX9_greatestDivisor_5 : decode mX9_greatestDivisor.2.1 5 = .ok (.istore 4, 2) := by decide +kernel
theorem dX9_greatestDivisor_7 : decode mX9_greatestDivisor.2.1 7 = .ok (.iload 4, 2) := by decide +kernel
theorem dX9_greatestDivisor_9 : decode mX9_greatestDivisor.2.1 9 = .ok (.bipush 100, 2) := by decide +kernel
theorem dX9_greatestDivisor_11 : decode mX9_greatestDivisor.2.1 11 = .ok (.if_icmp .ge 23, 3) := by decide +kernel
theorem dX9_greatestDivisor_14 : decode mX9_greatestDivisor.2.1 14 = .ok (.iload_n 3, 1) := by decide +kernel
theorem dX9_greatestDivisor_15 : decode mX9_greatestDivisor.2.1 15 = .ok (.ifCond .le 19, 3) := by decide +kernel
theorem dX9_greatestDivisor_18 : decode mX9_greatestDivisor.2.1 18 = .ok (.iload_n 2, 1) := by decide +kernel
theorem dX9_greatestDivisor_19 : decode mX9_greatestDivisor.2.1 19 = .ok (.iload_n 3, 1) := by decide +kernel
theorem dX9_greatestDivisor_20 : decode mX9_greatestDivisor.2.1 20 = .ok (.irem, 1) := by decide +kernel
theorem dX9_greatestDivisor_21 : decode mX9_greatestDivisor.2.1 21 = .ok (.istore 5, 2) := by decide +kernel
theorem dX9_greatestDivisor_23 : decode mX9_greatestDivisor.2.1 23 = .ok (.iload_n 3, 1) := by decide +kernel
theorem dX9_greatestDivisor_24 : decode mX9_greatestDivisor.2.1 24 = .ok (.istore_n 2, 1) := by decide +kernel
theorem dX9_greatestDivisor_25 : decode mX9_greatestDivisor.2.1 25 = .ok (.iload 5, 2) := by decide +kernel
theorem dX9_greatestDivisor_27 : decode mX9_greatestDivisor.2.1 27 = .ok (.istore_n 3, 1) := by decide +kernel
theorem dX9_greatestDivisor_28 : decode mX9_greatestDivisor.2.1 28 = .ok (.iinc 4 1, 3) := by decide +kernel
theorem dX9_greatestDivisor_31 : decode mX9_greatestDivisor.2.1 31 = .ok (.goto (-24), 3) := by decide +kernel
theorem dX9_greatestDivisor_34 : decode mX9_greatestDivisor.2.1 34 = .ok (.iload_n 2, 1) := by decide +kernel
theorem dX9_greatestDivisor_35 : decode mX9_greatestDivisor.2.1 35 = .ok (.iconst 1, 1) := by decide +kernel
theorem dX9_greatestDivisor_36 : decode mX9_greatestDivisor.2.1 36 = .ok (.invokestatic 353, 3) := by decide +kernel
theorem dX9_greatestDivisor_39 : decode mX9_greatestDivisor.2.1 39 = .ok (.ireturn, 1) := by decide +kernel
theorem bX9_greatestDivisor_0 {E : px_E} {d : Nat} {w : pw_W} {Q : Option Value → pw_W → Prop} {x0 x1 : Int32}  
    (k1 : px_W E mX9_greatestDivisor (d + 1) 0 0 7 [.null, .null, .int x0, .int x1, .int 0, .null] [] w Q) :
    px_W E mX9_greatestDivisor (d + 1) 0 0 0 [.int x0, .int x1, .null, .null, .null, .null] [] w Q := by
  refine px_iload_n dX9_greatestDivisor_0 rfl rfl ?_
  refine px_istore_n (ls' := [.int x0, .int x1, .int x0, .null, .null, .null]) dX9_greatestDivisor_1 rfl ⟨by decide, rfl⟩ rfl ?_
  refine px_iload_n dX9_greatestDivisor_2 rfl rfl ?_
  refine px_istore_n (ls' := [.int x0, .int x1, .int x0, .int x1, .null, .null]) dX9_greatestDivisor_3 rfl ⟨by decide, rfl⟩ rfl ?_
  refine px_iconst dX9_greatestDivisor_4 ic_0 ?_
  refine px_istore (ls' := [.int x0, .int x1, .int x0, .int x1, .int 0, .null]) dX9_greatestDivisor_5 ⟨by decide, rfl⟩ rfl ?_
  exact px_forget k1 ⟨Or.inl rfl, Or.inl rfl, Or.inr rfl, Or.inr rfl, Or.inr rfl, Or.inl rfl, trivial⟩
theorem eX9_greatestDivisor {E : px_E} {d : Nat} {w : pw_W} {Q : Option Value → pw_W → Prop} {x0 x1 : Int32}  
    (k1 : px_W E mX9_greatestDivisor (d + 1) 0 0 7 [.null, .null, .int x0, .int x1, .int 0, .null] [] w Q) :
    px_Call E (d + 1) 0 0 mX9_greatestDivisor [.int x0, .int x1] w Q :=
  px_enter (k := 4) (by decide) (Nat.le_of_ble_eq_true rfl) rfl (px_forget (bX9_greatestDivisor_0 k1) ⟨Or.inr rfl, Or.inr rfl, Or.inl rfl, Or.inl rfl, Or.inl rfl, Or.inl rfl, trivial⟩)
theorem bX9_greatestDivisor_7 {E : px_E} {d : Nat} {w : pw_W} {Q : Option Value → pw_W → Prop} {x2 x3 x4 : Int32}  
    (k1 : 100 ≤ x4 → px_W E mX9_greatestDivisor (d + 1) 0 0 34 [.null, .null, .int x2, .null, .null, .null] [] w Q)
    (k2 : ¬ 100 ≤ x4 → x3 ≤ 0 → px_W E mX9_greatestDivisor (d + 1) 0 0 34 [.null, .null, .int x2, .null, .null, .null] [] w Q)
    (k3 : ¬ 100 ≤ x4 → ¬ x3 ≤ 0 → px_W E mX9_greatestDivisor (d + 1) 0 0 18 [.null, .null, .int x2, .int x3, .int x4, .null] [] w Q) :
    px_W E mX9_greatestDivisor (d + 1) 0 0 7 [.null, .null, .int x2, .int x3, .int x4, .null] [] w Q := by
  refine px_iload dX9_greatestDivisor_7 rfl ?_
  refine px_bipush dX9_greatestDivisor_9 bp_100 ?_
  refine px_icmp_ge (tgt := 34) dX9_greatestDivisor_11 (by decide) (fun h1 => ?_) (fun h1 => ?_)
  ·
    exact px_forget (k1 h1) ⟨Or.inl rfl, Or.inl rfl, Or.inr rfl, Or.inl rfl, Or.inl rfl, Or.inl rfl, trivial⟩
  ·
    refine px_iload_n dX9_greatestDivisor_14 rfl rfl ?_
    refine px_if_le (tgt := 34) dX9_greatestDivisor_15 (by decide) (fun h2 => ?_) (fun h2 => ?_)
    ·
      exact px_forget (k2 h1 h2) ⟨Or.inl rfl, Or.inl rfl, Or.inr rfl, Or.inl rfl, Or.inl rfl, Or.inl rfl, trivial⟩
    ·
      exact (k3 h1 h2)
theorem bX9_greatestDivisor_18 {E : px_E} {d : Nat} {w : pw_W} {Q : Option Value → pw_W → Prop} {x2 x3 x4 : Int32}  (hz1 : ¬ x3 = 0)
    (k1 : px_W E mX9_greatestDivisor (d + 1) 0 0 7 [.null, .null, .int x3, .int (js_rem x2 x3), .int (x4 + 1), .null] [] w Q) :
    px_W E mX9_greatestDivisor (d + 1) 0 0 18 [.null, .null, .int x2, .int x3, .int x4, .null] [] w Q := by
  refine px_iload_n dX9_greatestDivisor_18 rfl rfl ?_
  refine px_iload_n dX9_greatestDivisor_19 rfl rfl ?_
  refine px_irem dX9_greatestDivisor_20 hz1 ?_
  refine px_istore (ls' := [.null, .null, .int x2, .int x3, .int x4, .int (js_rem x2 x3)]) dX9_greatestDivisor_21 ⟨by decide, rfl⟩ rfl ?_
  refine px_iload_n dX9_greatestDivisor_23 rfl rfl ?_
  refine px_istore_n (ls' := [.null, .null, .int x3, .int x3, .int x4, .int (js_rem x2 x3)]) dX9_greatestDivisor_24 rfl ⟨by decide, rfl⟩ rfl ?_
  refine px_iload dX9_greatestDivisor_25 rfl ?_
  refine px_istore_n (ls' := [.null, .null, .int x3, .int (js_rem x2 x3), .int x4, .int (js_rem x2 x3)]) dX9_greatestDivisor_27 rfl ⟨by decide, rfl⟩ rfl ?_
  refine px_iinc (ls' := [.null, .null, .int x3, .int (js_rem x2 x3), .int (x4 + 1), .int (js_rem x2 x3)]) dX9_greatestDivisor_28 ⟨by decide, rfl⟩ rfl rfl rfl ?_
  refine px_goto (tgt := 7) dX9_greatestDivisor_31 (by decide) ?_
  exact px_forget k1 ⟨Or.inl rfl, Or.inl rfl, Or.inr rfl, Or.inr rfl, Or.inr rfl, Or.inl rfl, trivial⟩
theorem bX9_greatestDivisor_34 {E : px_E} {d : Nat} {w : pw_W} {Q : Option Value → pw_W → Prop} {x2 : Int32}  
    (k1 : Q (some (.int (js_max x2 1))) w) :
    px_W E mX9_greatestDivisor (d + 1) 0 0 34 [.null, .null, .int x2, .null, .null, .null] [] w Q := by
  refine px_iload_n dX9_greatestDivisor_34 rfl rfl ?_
  refine px_iconst dX9_greatestDivisor_35 ic_1 ?_
  refine px_mmax dX9_greatestDivisor_36 (px_in5 112 rfl rfl) (Nat.le_of_ble_eq_true rfl) (by omega) ?_
  exact px_ireturn dX9_greatestDivisor_39 rfl rfl k1
