theorem dX5_read_0 : decode mX5_read.2.1 0 = .ok (.aload_n 0, 1) := by decide +kernel
theorem dX5_read_1 : decode mX5_read.2.1 1 = .ok (.getfield 28, 3) := by decide +kernel
theorem dX5_read_4 : decode mX5_read.2.1 4 = .ok (.invokevirtual 32, 3) := by decide +kernel
theorem dX5_read_7 : decode mX5_read.2.1 7 = .ok (.aload_n 0, 1) := by decide +kernel
theorem dX5_read_8 : decode mX5_read.2.1 8 = .ok (.iconst 0, 1) := by decide +kernel
theorem dX5_read_9 : decode mX5_read.2.1 9 = .ok (.putfield 35, 3) := by decide +kernel
theorem dX5_read_12 : decode mX5_read.2.1 12 = .ok (.aload_n 0, 1) := by decide +kernel
theorem dX5_read_13 : decode mX5_read.2.1 13 = .ok (.iconst 0, 1) := by decide +kernel
theorem dX5_read_14 : decode mX5_read.2.1 14 = .ok (.putfield 39, 3) := by decide +kernel
theorem dX5_read_17 : decode mX5_read.2.1 17 = .ok (.aload_n 0, 1) := by decide +kernel
theorem dX5_read_18 : decode mX5_read.2.1 18 = .ok (.iconst (-1), 1) := by decide +kernel
theorem dX5_read_19 : decode mX5_read.2.1 19 = .ok (.putfield 42, 3) := by decide +kernel
theorem dX5_read_22 : decode mX5_read.2.1 22 = .ok (.aload_n 0, 1) := by decide +kernel
theorem dX5_read_23 : decode mX5_read.2.1 23 = .ok (.getfield 12, 3) := by decide +kernel
theorem dX5_read_26 : decode mX5_read.2.1 26 = .ok (.aload_n 1, 1) := by decide +kernel
theorem dX5_read_27 : decode mX5_read.2.1 27 = .ok (.iload_n 2, 1) := by decide +kernel
theorem dX5_read_28 : decode mX5_read.2.1 28 = .ok (.invokevirtual 45, 3) := by decide +kernel
theorem dX5_read_31 : decode mX5_read.2.1 31 = .ok (.iconst 0, 1) := by decide +kernel
theorem dX5_read_32 : decode mX5_read.2.1 32 = .ok (.istore_n 3, 1) := by decide +kernel
theorem dX5_read_33 : decode mX5_read.2.1 33 = .ok (.iload_n 3, 1) := by decide +kernel
theorem dX5_read_34 : decode mX5_read.2.1 34 = .ok (.sipush 1600, 3) := by decide +kernel
theorem dX5_read_37 : decode mX5_read.2.1 37 = .ok (.if_icmp .gt 28, 3) := by decide +kernel
theorem dX5_read_40 : decode mX5_read.2.1 40 = .ok (.aload_n 0, 1) := by decide +kernel
theorem dX5_read_41 : decode mX5_read.2.1 41 = .ok (.getfield 12, 3) := by decide +kernel
theorem dX5_read_44 : decode mX5_read.2.1 44 = .ok (.getfield 49, 3) := by decide +kernel
theorem dX5_read_47 : decode mX5_read.2.1 47 = .ok (.ifCond .eq 18, 3) := by decide +kernel
theorem dX5_read_50 : decode mX5_read.2.1 50 = .ok (.aload_n 0, 1) := by decide +kernel
theorem dX5_read_51 : decode mX5_read.2.1 51 = .ok (.invokevirtual 52, 3) := by decide +kernel
theorem dX5_read_54 : decode mX5_read.2.1 54 = .ok (.ifCond .ne 5, 3) := by decide +kernel
theorem dX5_read_57 : decode mX5_read.2.1 57 = .ok (.iconst 0, 1) := by decide +kernel
theorem dX5_read_58 : decode mX5_read.2.1 58 = .ok (.ireturn, 1) := by decide +kernel
theorem dX5_read_59 : decode mX5_read.2.1 59 = .ok (.iinc 3 1, 3) := by decide +kernel
theorem dX5_read_62 : decode mX5_read.2.1 62 = .ok (.goto (-29), 3) := by decide +kernel
theorem dX5_read_65 : decode mX5_read.2.1 65 = .ok (.iconst 1, 1) := by decide +kernel
theorem dX5_read_66 : decode mX5_read.2.1 66 = .ok (.ireturn, 1) := by decide +kernel
theorem bX5_read_0 {E : px_E} {d : Nat} {w : pw_W} {Q : Option Value → pw_W → Prop} {t : ct_T} (hw : w.1 = cs t) {x2 : Int32} {r1 : Nat} (ht2 : is_Hamlet t.2.1) 
    (k1 : px_Call E d 0 0 mX2_clear [.ref t.2.1] w (fun v w' => px_W E mX5_read (d + 1) 0 0 7 [.ref 16, .ref r1, .int x2, .null] (v.toList ++ []) w' Q)) :
    px_W E mX5_read (d + 1) 0 0 0 [.ref 16, .ref r1, .int x2, .null] [] w Q := by
  refine px_aload_n dX5_read_0 rfl rfl ?_
  refine px_getR (v := t.2.1) dX5_read_1 fr_5_28 rfl (px_sh1 hw sh_16) (px_rf hw rf_16_3) ht2.ne ?_
  exact px_callV (As := []) (st := []) (rc := 0) (rs := 0) (mc := 0) (ms := 0) dX5_read_4 lk_5_32 (px_sh1 hw ht2.sh) rfl rfl (Nat.le_of_ble_eq_true rfl) k1
theorem eX5_read {E : px_E} {d : Nat} {w : pw_W} {Q : Option Value → pw_W → Prop} {t : ct_T} (hw : w.1 = cs t) {x2 : Int32} {r1 : Nat} (ht2 : is_Hamlet t.2.1) 
    (k1 : px_Call E d 0 0 mX2_clear [.ref t.2.1] w (fun v w' => px_W E mX5_read (d + 1) 0 0 7 [.ref 16, .ref r1, .int x2, .null] (v.toList ++ []) w' Q)) :
    px_Call E (d + 1) 0 0 mX5_read [.ref 16, .ref r1, .int x2] w Q :=
  px_enter (k := 1) (by decide) (Nat.le_of_ble_eq_true rfl) rfl (px_forget (bX5_read_0 hw ht2 k1) ⟨Or.inr rfl, Or.inr rfl, Or.inr rfl, Or.inl rfl, trivial⟩)
theorem bX5_read_7 {E : px_E} {d : Nat} {w : pw_W} {Q : Option Value → pw_W → Prop} {t : ct_T} (hw : w.1 = cs t) {x2 : Int32} {r1 : Nat} (ht2 : is_Hamlet t.2.1) 
    (k1 : px_Call E d 0 0 mX6_begin [.ref 17, .ref r1, .int x2] (pw_sI (pw_sI (pw_sI w 16 4 0) 16 5 0) 16 6 (-1)) (fun v w' => px_W E mX5_read (d + 1) 0 0 31 [.ref 16, .null, .null, .null] (v.toList ++ []) w' Q)) :
    px_W E mX5_read (d + 1) 0 0 7 [.ref 16, .ref r1, .int x2, .null] [] w Q := by
  refine px_aload_n dX5_read_7 rfl rfl ?_
  refine px_iconst dX5_read_8 ic_0 ?_
  refine px_putI dX5_read_9 fl_5_35 (Or.inl rfl) rfl (px_sh1 hw sh_16) rfl rfl (by omega) ?_
  refine px_aload_n dX5_read_12 rfl rfl ?_
  refine px_iconst dX5_read_13 ic_0 ?_
  refine px_putI dX5_read_14 fl_5_39 (Or.inl rfl) rfl (px_sh1 (hI hw) sh_16) rfl rfl (by omega) ?_
  refine px_aload_n dX5_read_17 rfl rfl ?_
  refine px_iconst dX5_read_18 ic_m1 ?_
  refine px_putI dX5_read_19 fl_5_42 (Or.inl rfl) rfl (px_sh1 (hI (hI hw)) sh_16) rfl rfl (by omega) ?_
  refine px_aload_n dX5_read_22 rfl rfl ?_
  refine px_getR (v := 17) dX5_read_23 fr_5_12 rfl (px_sh1 (hI (hI (hI hw))) sh_16) (px_rf (hI (hI (hI hw))) rf_16_0) (by decide) ?_
  refine px_aload_n dX5_read_26 rfl rfl ?_
  refine px_iload_n dX5_read_27 rfl rfl ?_
  refine px_forget (ls' := [.ref 16, .null, .null, .null]) ?_ ⟨Or.inr rfl, Or.inl rfl, Or.inl rfl, Or.inl rfl, trivial⟩
  exact px_callV (As := [.ref r1, .int x2]) (st := []) (rc := 0) (rs := 0) (mc := 0) (ms := 0) dX5_read_28 lk_5_45 (px_sh1 (hI (hI (hI hw))) sh_17) rfl rfl (Nat.le_of_ble_eq_true rfl) k1
theorem bX5_read_31 {E : px_E} {d : Nat} {w : pw_W} {Q : Option Value → pw_W → Prop} {t : ct_T} (hw : w.1 = cs t) {r1 : Nat} (ht2 : is_Hamlet t.2.1) 
    (k1 : px_W E mX5_read (d + 1) 0 0 33 [.ref 16, .null, .null, .int 0] [] w Q) :
    px_W E mX5_read (d + 1) 0 0 31 [.ref 16, .null, .null, .null] [] w Q := by
  refine px_iconst dX5_read_31 ic_0 ?_
  refine px_istore_n (ls' := [.ref 16, .null, .null, .int 0]) dX5_read_32 rfl ⟨by decide, rfl⟩ rfl ?_
  exact k1
theorem bX5_read_33 {E : px_E} {d : Nat} {w : pw_W} {Q : Option Value → pw_W → Prop} {t : ct_T} (hw : w.1 = cs t) {x3 : Int32} {r1 : Nat} (ht2 : is_Hamlet t.2.1) 
    (k1 : 1600 < x3 → px_W E mX5_read (d + 1) 0 0 65 [.null, .null, .null, .null] [] w Q)
    (k2 : ¬ 1600 < x3 → (pw_I w 17 4) = 0 → px_W E mX5_read (d + 1) 0 0 65 [.null, .null, .null, .null] [] w Q)
    (k3 : ¬ 1600 < x3 → ¬ (pw_I w 17 4) = 0 → px_Call E d 0 0 mX5_readLine [.ref 16] w (fun v w' => px_W E mX5_read (d + 1) 0 0 54 [.ref 16, .null, .null, .int x3] (v.toList ++ []) w' Q)) :
    px_W E mX5_read (d + 1) 0 0 33 [.ref 16, .null, .null, .int x3] [] w Q := by
  refine px_iload_n dX5_read_33 rfl rfl ?_
  refine px_sipush dX5_read_34 sp_1600 ?_
  refine px_icmp_gt (tgt := 65) dX5_read_37 (by decide) (fun h1 => ?_) (fun h1 => ?_)
  ·
    exact px_forget (k1 h1) ⟨Or.inl rfl, Or.inl rfl, Or.inl rfl, Or.inl rfl, trivial⟩
  ·
    refine px_aload_n dX5_read_40 rfl rfl ?_
    refine px_getR (v := 17) dX5_read_41 fr_5_12 rfl (px_sh1 hw sh_16) (px_rf hw rf_16_0) (by decide) ?_
    refine px_getI dX5_read_44 fr_5_49 rfl (px_sh1 hw sh_17) ?_
    refine px_if_eq (tgt := 65) dX5_read_47 (by decide) (fun h2 => ?_) (fun h2 => ?_)
    ·
      exact px_forget (k2 h1 h2) ⟨Or.inl rfl, Or.inl rfl, Or.inl rfl, Or.inl rfl, trivial⟩
    ·
      refine px_aload_n dX5_read_50 rfl rfl ?_
      exact px_callV (As := []) (st := []) (rc := 0) (rs := 0) (mc := 0) (ms := 0) dX5_read_51 lk_5_52 (px_sh1 hw sh_16) rfl rfl (Nat.le_of_ble_eq_true rfl) (k3 h1 h2)
theorem bX5_read_54 {E : px_E} {d : Nat} {w : pw_W} {Q : Option Value → pw_W → Prop} {t : ct_T} (hw : w.1 = cs t) {x3 y0 : Int32} {r1 : Nat} (ht2 : is_Hamlet t.2.1) 
    (k1 : ¬ y0 = 0 → px_W E mX5_read (d + 1) 0 0 33 [.ref 16, .null, .null, .int (x3 + 1)] [] w Q)
    (k2 : y0 = 0 → Q (some (.int 0)) w) :
    px_W E mX5_read (d + 1) 0 0 54 [.ref 16, .null, .null, .int x3] [.int y0] w Q := by
  refine px_if_ne (tgt := 59) dX5_read_54 (by decide) (fun h1 => ?_) (fun h1 => ?_)
  ·
    refine px_iinc (ls' := [.ref 16, .null, .null, .int (x3 + 1)]) dX5_read_59 ⟨by decide, rfl⟩ rfl rfl rfl ?_
    refine px_goto (tgt := 33) dX5_read_62 (by decide) ?_
    exact (k1 h1)
  ·
    refine px_iconst dX5_read_57 ic_0 ?_
    exact px_ireturn dX5_read_58 rfl (by decide) (k2 h1)
theorem bX5_read_65 {E : px_E} {d : Nat} {w : pw_W} {Q : Option Value → pw_W → Prop} {t : ct_T} (hw : w.1 = cs t) {r1 : Nat} (ht2 : is_Hamlet t.2.1) 
    (k1 : Q (some (.int 1)) w) :
    px_W E mX5_read (d + 1) 0 0 65 [.null, .null, .null, .null] [] w Q := by
  refine px_iconst dX5_read_65 ic_1 ?_
  exact px_ireturn dX5_read_66 rfl (by decide) k1
theorem dX5_swapDraft_0 : decode mX5_swapDraft.2.1 0 = .ok (.aload_n 0, 1) := by decide +kernel
theorem dX5_swapDraft_1 : decode mX5_swapDraft.2.1 1 = .ok (.getfield 28, 3) := by decide +kernel
theorem dX5_swapDraft_4 : decode mX5_swapDraft.2.1 4 = .ok (.astore_n 2, 1) := by decide +kernel
theorem dX5_swapDraft_5 : decode mX5_swapDraft.2.1 5 = .ok (.aload_n 0, 1) := by decide +kernel
theorem dX5_swapDraft_6 : decode mX5_swapDraft.2.1 6 = .ok (.aload_n 1, 1) := by decide +kernel
theorem dX5_swapDraft_7 : decode mX5_swapDraft.2.1 7 = .ok (.putfield 28, 3) := by decide +kernel
theorem dX5_swapDraft_10 : decode mX5_swapDraft.2.1 10 = .ok (.aload_n 2, 1) := by decide +kernel
theorem dX5_swapDraft_11 : decode mX5_swapDraft.2.1 11 = .ok (.areturn, 1) := by decide +kernel
theorem bX5_swapDraft_0 {E : px_E} {d : Nat} {w : pw_W} {Q : Option Value → pw_W → Prop} {t : ct_T} (hw : w.1 = cs t) {r1 : Nat} (hr1 : is_Hamlet r1) (ht2 : is_Hamlet t.2.1) 
    (k1 : Q (some (.ref t.2.1)) (pw_sR w 16 3 r1)) :
    px_W E mX5_swapDraft (d + 1) 0 0 0 [.ref 16, .ref r1, .null] [] w Q := by
  refine px_aload_n dX5_swapDraft_0 rfl rfl ?_
  refine px_getR (v := t.2.1) dX5_swapDraft_1 fr_5_28 rfl (px_sh1 hw sh_16) (px_rf hw rf_16_3) ht2.ne ?_
  refine px_astore_n (ls' := [.ref 16, .ref r1, .ref t.2.1]) dX5_swapDraft_4 rfl ⟨by decide, rfl⟩ rfl ?_
  refine px_aload_n dX5_swapDraft_5 rfl rfl ?_
  refine px_aload_n dX5_swapDraft_6 rfl rfl ?_
  refine px_putR dX5_swapDraft_7 fl_5_28 (Or.inl rfl) rfl (px_sh1 hw sh_16) hr1.ne (by omega) ?_
  refine px_aload_n dX5_swapDraft_10 rfl rfl ?_
  exact px_areturn dX5_swapDraft_11 rfl k1
theorem eX5_swapDraft {E : px_E} {d : Nat} {w : pw_W} {Q : Option Value → pw_W → Prop} {t : ct_T} (hw : w.1 = cs t) {r1 : Nat} (hr1 : is_Hamlet r1) (ht2 : is_Hamlet t.2.1) 
    (k1 : Q (some (.ref t.2.1)) (pw_sR w 16 3 r1)) :
    px_Call E (d + 1) 0 0 mX5_swapDraft [.ref 16, .ref r1] w Q :=
  px_enter (k := 1) (by decide) (Nat.le_of_ble_eq_true rfl) rfl (px_forget (bX5_swapDraft_0 hw hr1 ht2 k1) ⟨Or.inr rfl, Or.inr rfl, Or.inl rfl, trivial⟩)
theorem dX5_readLine_0 : decode mX5_readLine.2.1 0 = .ok (.aload_n 0, 1) := by decide +kernel
theorem dX5_readLine_1 : decode mX5_readLine.2.1 1 = .ok (.getfield 12, 3) := by decide +kernel
theorem dX5_readLine_4 : decode mX5_readLine.2.1 4 = .ok (.getfield 49, 3) := by decide +kernel
theorem dX5_readLine_7 : decode mX5_readLine.2.1 7 = .ok (.iconst 4, 1) := by decide +kernel
theorem dX5_readLine_8 : decode mX5_readLine.2.1 8 = .ok (.if_icmp .eq 8, 3) := by decide +kernel
theorem dX5_readLine_11 : decode mX5_readLine.2.1 11 = .ok (.aload_n 0, 1) := by decide +kernel
theorem dX5_readLine_12 : decode mX5_readLine.2.1 12 = .ok (.invokevirtual 56, 3) := by decide +kernel
theorem dX5_readLine_15 : decode mX5_readLine.2.1 15 = .ok (.ireturn, 1) := by decide +kernel
theorem dX5_readLine_16 : decode mX5_readLine.2.1 16 = .ok (.aload_n 0, 1) := by decide +kernel
theorem dX5_readLine_17 : decode mX5_readLine.2.1 17 = .ok (.getfield 12, 3) := by decide +kernel
theorem dX5_readLine_20 : decode mX5_readLine.2.1 20 = .ok (.getfield 59, 3) := by decide +kernel
theorem dX5_readLine_23 : decode mX5_readLine.2.1 23 = .ok (.tableswitch 169 0 11 #[61, 169, 169, 76, 66, 169, 71, 169, 169, 81, 110, 139], 61) := by decide +kernel
theorem dX5_readLine_84 : decode mX5_readLine.2.1 84 = .ok (.aload_n 0, 1) := by decide +kernel
theorem dX5_readLine_85 : decode mX5_readLine.2.1 85 = .ok (.invokevirtual 62, 3) := by decide +kernel
theorem dX5_readLine_88 : decode mX5_readLine.2.1 88 = .ok (.ireturn, 1) := by decide +kernel
theorem dX5_readLine_89 : decode mX5_readLine.2.1 89 = .ok (.aload_n 0, 1) := by decide +kernel
theorem dX5_readLine_90 : decode mX5_readLine.2.1 90 = .ok (.invokevirtual 65, 3) := by decide +kernel
theorem dX5_readLine_93 : decode mX5_readLine.2.1 93 = .ok (.ireturn, 1) := by decide +kernel
theorem dX5_readLine_94 : decode mX5_readLine.2.1 94 = .ok (.aload_n 0, 1) := by decide +kernel
theorem dX5_readLine_95 : decode mX5_readLine.2.1 95 = .ok (.invokevirtual 68, 3) := by decide +kernel
theorem dX5_readLine_98 : decode mX5_readLine.2.1 98 = .ok (.ireturn, 1) := by decide +kernel
theorem dX5_readLine_99 : decode mX5_readLine.2.1 99 = .ok (.aload_n 0, 1) := by decide +kernel
theorem dX5_readLine_100 : decode mX5_readLine.2.1 100 = .ok (.invokevirtual 71, 3) := by decide +kernel
theorem dX5_readLine_103 : decode mX5_readLine.2.1 103 = .ok (.ireturn, 1) := by decide +kernel
theorem dX5_readLine_104 : decode mX5_readLine.2.1 104 = .ok (.aload_n 0, 1) := by decide +kernel
theorem dX5_readLine_105 : decode mX5_readLine.2.1 105 = .ok (.getfield 28, 3) := by decide +kernel
theorem dX5_readLine_108 : decode mX5_readLine.2.1 108 = .ok (.aload_n 0, 1) := by decide +kernel
theorem dX5_readLine_109 : decode mX5_readLine.2.1 109 = .ok (.bipush 9, 2) := by decide +kernel
theorem dX5_readLine_111 : decode mX5_readLine.2.1 111 = .ok (.iconst 1, 1) := by decide +kernel
theorem dX5_readLine_112 : decode mX5_readLine.2.1 112 = .ok (.bipush 99, 2) := by decide +kernel
theorem dX5_readLine_114 : decode mX5_readLine.2.1 114 = .ok (.invokevirtual 74, 3) := by decide +kernel
theorem dX5_readLine_117 : decode mX5_readLine.2.1 117 = .ok (.putfield 78, 3) := by decide +kernel
theorem dX5_readLine_120 : decode mX5_readLine.2.1 120 = .ok (.aload_n 0, 1) := by decide +kernel
theorem dX5_readLine_121 : decode mX5_readLine.2.1 121 = .ok (.getfield 39, 3) := by decide +kernel
theorem dX5_readLine_124 : decode mX5_readLine.2.1 124 = .ok (.ifCond .ne 7, 3) := by decide +kernel
theorem dX5_readLine_127 : decode mX5_readLine.2.1 127 = .ok (.iconst 1, 1) := by decide +kernel
theorem dX5_readLine_128 : decode mX5_readLine.2.1 128 = .ok (.goto 4, 3) := by decide +kernel
theorem dX5_readLine_131 : decode mX5_readLine.2.1 131 = .ok (.iconst 0, 1) := by decide +kernel
theorem dX5_readLine_132 : decode mX5_readLine.2.1 132 = .ok (.ireturn, 1) := by decide +kernel
theorem dX5_readLine_133 : decode mX5_readLine.2.1 133 = .ok (.aload_n 0, 1) := by decide +kernel
theorem dX5_readLine_134 : decode mX5_readLine.2.1 134 = .ok (.getfield 28, 3) := by decide +kernel
theorem dX5_readLine_137 : decode mX5_readLine.2.1 137 = .ok (.aload_n 0, 1) := by decide +kernel
theorem dX5_readLine_138 : decode mX5_readLine.2.1 138 = .ok (.bipush 10, 2) := by decide +kernel
theorem dX5_readLine_140 : decode mX5_readLine.2.1 140 = .ok (.iconst 0, 1) := by decide +kernel
theorem dX5_readLine_141 : decode mX5_readLine.2.1 141 = .ok (.bipush 100, 2) := by decide +kernel
theorem dX5_readLine_143 : decode mX5_readLine.2.1 143 = .ok (.invokevirtual 74, 3) := by decide +kernel
theorem dX5_readLine_146 : decode mX5_readLine.2.1 146 = .ok (.putfield 81, 3) := by decide +kernel
theorem dX5_readLine_149 : decode mX5_readLine.2.1 149 = .ok (.aload_n 0, 1) := by decide +kernel
theorem dX5_readLine_150 : decode mX5_readLine.2.1 150 = .ok (.getfield 39, 3) := by decide +kernel
theorem dX5_readLine_153 : decode mX5_readLine.2.1 153 = .ok (.ifCond .ne 7, 3) := by decide +kernel
theorem dX5_readLine_156 : decode mX5_readLine.2.1 156 = .ok (.iconst 1, 1) := by decide +kernel
theorem dX5_readLine_157 : decode mX5_readLine.2.1 157 = .ok (.goto 4, 3) := by decide +kernel
theorem dX5_readLine_160 : decode mX5_readLine.2.1 160 = .ok (.iconst 0, 1) := by decide +kernel
theorem dX5_readLine_161 : decode mX5_readLine.2.1 161 = .ok (.ireturn, 1) := by decide +kernel
theorem dX5_readLine_162 : decode mX5_readLine.2.1 162 = .ok (.aload_n 0, 1) := by decide +kernel
theorem dX5_readLine_163 : decode mX5_readLine.2.1 163 = .ok (.getfield 28, 3) := by decide +kernel
theorem dX5_readLine_166 : decode mX5_readLine.2.1 166 = .ok (.aload_n 0, 1) := by decide +kernel
theorem dX5_readLine_167 : decode mX5_readLine.2.1 167 = .ok (.bipush 11, 2) := by decide +kernel
theorem dX5_readLine_169 : decode mX5_readLine.2.1 169 = .ok (.iconst 0, 1) := by decide +kernel
theorem dX5_readLine_170 : decode mX5_readLine.2.1 170 = .ok (.sipush 999, 3) := by decide +kernel
theorem dX5_readLine_173 : decode mX5_readLine.2.1 173 = .ok (.invokevirtual 74, 3) := by decide +kernel
theorem dX5_readLine_176 : decode mX5_readLine.2.1 176 = .ok (.putfield 84, 3) := by decide +kernel
theorem dX5_readLine_179 : decode mX5_readLine.2.1 179 = .ok (.aload_n 0, 1) := by decide +kernel
theorem dX5_readLine_180 : decode mX5_readLine.2.1 180 = .ok (.getfield 39, 3) := by decide +kernel
theorem dX5_readLine_183 : decode mX5_readLine.2.1 183 = .ok (.ifCond .ne 7, 3) := by decide +kernel
theorem dX5_readLine_186 : decode mX5_readLine.2.1 186 = .ok (.iconst 1, 1) := by decide +kernel
theorem dX5_readLine_187 : decode mX5_readLine.2.1 187 = .ok (.goto 4, 3) := by decide +kernel
theorem dX5_readLine_190 : decode mX5_readLine.2.1 190 = .ok (.iconst 0, 1) := by decide +kernel
theorem dX5_readLine_191 : decode mX5_readLine.2.1 191 = .ok (.ireturn, 1) := by decide +kernel
theorem dX5_readLine_192 : decode mX5_readLine.2.1 192 = .ok (.aload_n 0, 1) := by decide +kernel
theorem dX5_readLine_193 : decode mX5_readLine.2.1 193 = .ok (.invokevirtual 56, 3) := by decide +kernel
theorem dX5_readLine_196 : decode mX5_readLine.2.1 196 = .ok (.ireturn, 1) := by decide +kernel
theorem bX5_readLine_0 {E : px_E} {d : Nat} {w : pw_W} {Q : Option Value → pw_W → Prop} {t : ct_T} (hw : w.1 = cs t) (ht2 : is_Hamlet t.2.1) 
    (k1 : (pw_I w 17 4) = 4 → (pw_I w 17 5) = 0 → px_Call E d 0 0 mX5_readPerson [.ref 16] w (fun v w' => px_W E mX5_readLine (d + 1) 0 0 88 [.null] (v.toList ++ []) w' Q))
    (k2 : (pw_I w 17 4) = 4 → ¬ (pw_I w 17 5) = 0 → (pw_I w 17 5) = 1 → px_Call E d 0 0 mX5_refuse [.ref 16] w (fun v w' => px_W E mX5_readLine (d + 1) 0 0 196 [.null] (v.toList ++ []) w' Q))
    (k3 : (pw_I w 17 4) = 4 → ¬ (pw_I w 17 5) = 0 → ¬ (pw_I w 17 5) = 1 → (pw_I w 17 5) = 2 → px_Call E d 0 0 mX5_refuse [.ref 16] w (fun v w' => px_W E mX5_readLine (d + 1) 0 0 196 [.null] (v.toList ++ []) w' Q))
    (k4 : (pw_I w 17 4) = 4 → ¬ (pw_I w 17 5) = 0 → ¬ (pw_I w 17 5) = 1 → ¬ (pw_I w 17 5) = 2 → (pw_I w 17 5) = 3 → px_Call E d 0 0 mX5_readFormula [.ref 16] w (fun v w' => px_W E mX5_readLine (d + 1) 0 0 103 [.null] (v.toList ++ []) w' Q))
    (k5 : (pw_I w 17 4) = 4 → ¬ (pw_I w 17 5) = 0 → ¬ (pw_I w 17 5) = 1 → ¬ (pw_I w 17 5) = 2 → ¬ (pw_I w 17 5) = 3 → (pw_I w 17 5) = 4 → px_Call E d 0 0 mX5_readMeeting [.ref 16] w (fun v w' => px_W E mX5_readLine (d + 1) 0 0 93 [.null] (v.toList ++ []) w' Q))
    (k6 : (pw_I w 17 4) = 4 → ¬ (pw_I w 17 5) = 0 → ¬ (pw_I w 17 5) = 1 → ¬ (pw_I w 17 5) = 2 → ¬ (pw_I w 17 5) = 3 → ¬ (pw_I w 17 5) = 4 → (pw_I w 17 5) = 5 → px_Call E d 0 0 mX5_refuse [.ref 16] w (fun v w' => px_W E mX5_readLine (d + 1) 0 0 196 [.null] (v.toList ++ []) w' Q))
    (k7 : (pw_I w 17 4) = 4 → ¬ (pw_I w 17 5) = 0 → ¬ (pw_I w 17 5) = 1 → ¬ (pw_I w 17 5) = 2 → ¬ (pw_I w 17 5) = 3 → ¬ (pw_I w 17 5) = 4 → ¬ (pw_I w 17 5) = 5 → (pw_I w 17 5) = 6 → px_Call E d 0 0 mX5_readBrother [.ref 16] w (fun v w' => px_W E mX5_readLine (d + 1) 0 0 98 [.null] (v.toList ++ []) w' Q))
    (k8 : (pw_I w 17 4) = 4 → ¬ (pw_I w 17 5) = 0 → ¬ (pw_I w 17 5) = 1 → ¬ (pw_I w 17 5) = 2 → ¬ (pw_I w 17 5) = 3 → ¬ (pw_I w 17 5) = 4 → ¬ (pw_I w 17 5) = 5 → ¬ (pw_I w 17 5) = 6 → (pw_I w 17 5) = 7 → px_Call E d 0 0 mX5_refuse [.ref 16] w (fun v w' => px_W E mX5_readLine (d + 1) 0 0 196 [.null] (v.toList ++ []) w' Q))
    (k9 : (pw_I w 17 4) = 4 → ¬ (pw_I w 17 5) = 0 → ¬ (pw_I w 17 5) = 1 → ¬ (pw_I w 17 5) = 2 → ¬ (pw_I w 17 5) = 3 → ¬ (pw_I w 17 5) = 4 → ¬ (pw_I w 17 5) = 5 → ¬ (pw_I w 17 5) = 6 → ¬ (pw_I w 17 5) = 7 → (pw_I w 17 5) = 8 → px_Call E d 0 0 mX5_refuse [.ref 16] w (fun v w' => px_W E mX5_readLine (d + 1) 0 0 196 [.null] (v.toList ++ []) w' Q))
    (k10 : (pw_I w 17 4) = 4 → ¬ (pw_I w 17 5) = 0 → ¬ (pw_I w 17 5) = 1 → ¬ (pw_I w 17 5) = 2 → ¬ (pw_I w 17 5) = 3 → ¬ (pw_I w 17 5) = 4 → ¬ (pw_I w 17 5) = 5 → ¬ (pw_I w 17 5) = 6 → ¬ (pw_I w 17 5) = 7 → ¬ (pw_I w 17 5) = 8 → (pw_I w 17 5) = 9 → px_Call E d 0 0 mX5_readSetting [.ref 16, .int 9, .int 1, .int 99] w (fun v w' => px_W E mX5_readLine (d + 1) 0 0 117 [.ref 16] (v.toList ++ [.ref t.2.1]) w' Q))
    (k11 : (pw_I w 17 4) = 4 → ¬ (pw_I w 17 5) = 0 → ¬ (pw_I w 17 5) = 1 → ¬ (pw_I w 17 5) = 2 → ¬ (pw_I w 17 5) = 3 → ¬ (pw_I w 17 5) = 4 → ¬ (pw_I w 17 5) = 5 → ¬ (pw_I w 17 5) = 6 → ¬ (pw_I w 17 5) = 7 → ¬ (pw_I w 17 5) = 8 → ¬ (pw_I w 17 5) = 9 → (pw_I w 17 5) = 10 → px_Call E d 0 0 mX5_readSetting [.ref 16, .int 10, .int 0, .int 100] w (fun v w' => px_W E mX5_readLine (d + 1) 0 0 146 [.ref 16] (v.toList ++ [.ref t.2.1]) w' Q))
    (k12 : (pw_I w 17 4) = 4 → ¬ (pw_I w 17 5) = 0 → ¬ (pw_I w 17 5) = 1 → ¬ (pw_I w 17 5) = 2 → ¬ (pw_I w 17 5) = 3 → ¬ (pw_I w 17 5) = 4 → ¬ (pw_I w 17 5) = 5 → ¬ (pw_I w 17 5) = 6 → ¬ (pw_I w 17 5) = 7 → ¬ (pw_I w 17 5) = 8 → ¬ (pw_I w 17 5) = 9 → ¬ (pw_I w 17 5) = 10 → (pw_I w 17 5) = 11 → px_Call E d 0 0 mX5_readSetting [.ref 16, .int 11, .int 0, .int 999] w (fun v w' => px_W E mX5_readLine (d + 1) 0 0 176 [.ref 16] (v.toList ++ [.ref t.2.1]) w' Q))
    (k13 : (pw_I w 17 4) = 4 → ¬ (pw_I w 17 5) = 0 → ¬ (pw_I w 17 5) = 1 → ¬ (pw_I w 17 5) = 2 → ¬ (pw_I w 17 5) = 3 → ¬ (pw_I w 17 5) = 4 → ¬ (pw_I w 17 5) = 5 → ¬ (pw_I w 17 5) = 6 → ¬ (pw_I w 17 5) = 7 → ¬ (pw_I w 17 5) = 8 → ¬ (pw_I w 17 5) = 9 → ¬ (pw_I w 17 5) = 10 → ¬ (pw_I w 17 5) = 11 → px_Call E d 0 0 mX5_refuse [.ref 16] w (fun v w' => px_W E mX5_readLine (d + 1) 0 0 196 [.null] (v.toList ++ []) w' Q))
    (k14 : ¬ (pw_I w 17 4) = 4 → px_Call E d 0 0 mX5_refuse [.ref 16] w (fun v w' => px_W E mX5_readLine (d + 1) 0 0 15 [.null] (v.toList ++ []) w' Q)) :
    px_W E mX5_readLine (d + 1) 0 0 0 [.ref 16] [] w Q := by
  refine px_aload_n dX5_readLine_0 rfl rfl ?_
  refine px_getR (v := 17) dX5_readLine_1 fr_5_12 rfl (px_sh1 hw sh_16) (px_rf hw rf_16_0) (by decide) ?_
  refine px_getI dX5_readLine_4 fr_5_49 rfl (px_sh1 hw sh_17) ?_
  refine px_iconst dX5_readLine_7 ic_4 ?_
  refine px_icmp_eq (tgt := 16) dX5_readLine_8 (by decide) (fun h1 => ?_) (fun h1 => ?_)
  ·
    refine px_aload_n dX5_readLine_16 rfl rfl ?_
    refine px_getR (v := 17) dX5_readLine_17 fr_5_12 rfl (px_sh1 hw sh_16) (px_rf hw rf_16_0) (by decide) ?_
    refine px_getI dX5_readLine_20 fr_5_59 rfl (px_sh1 hw sh_17) ?_
    by_cases h2 : (pw_I w 17 5) = 0
    ·
      refine px_table (tgt := 84) dX5_readLine_23 61 (by rw [h2]; decide) (by decide) ?_
      refine px_aload_n dX5_readLine_84 rfl rfl ?_
      refine px_forget (ls' := [.null]) ?_ ⟨Or.inl rfl, trivial⟩
      exact px_callV (As := []) (st := []) (rc := 0) (rs := 0) (mc := 0) (ms := 0) dX5_readLine_85 lk_5_62 (px_sh1 hw sh_16) rfl rfl (Nat.le_of_ble_eq_true rfl) (k1 h1 h2)
    by_cases h3 : (pw_I w 17 5) = 1
    ·
      refine px_table (tgt := 192) dX5_readLine_23 169 (by rw [h3]; decide) (by decide) ?_
      refine px_aload_n dX5_readLine_192 rfl rfl ?_
      refine px_forget (ls' := [.null]) ?_ ⟨Or.inl rfl, trivial⟩
      exact px_callV (As := []) (st := []) (rc := 0) (rs := 0) (mc := 0) (ms := 0) dX5_readLine_193 lk_5_56 (px_sh1 hw sh_16) rfl rfl (Nat.le_of_ble_eq_true rfl) (k2 h1 h2 h3)
    by_cases h4 : (pw_I w 17 5) = 2
    ·
      refine px_table (tgt := 192) dX5_readLine_23 169 (by rw [h4]; decide) (by decide) ?_
      refine px_aload_n dX5_readLine_192 rfl rfl ?_
      refine px_forget (ls' := [.null]) ?_ ⟨Or.inl rfl, trivial⟩
      exact px_callV (As := []) (st := []) (rc := 0) (rs := 0) (mc := 0) (ms := 0) dX5_readLine_193 lk_5_56 (px_sh1 hw sh_16) rfl rfl (Nat.le_of_ble_eq_true rfl) (k3 h1 h2 h3 h4)
    by_cases h5 : (pw_I w 17 5) = 3
    ·
      refine px_table (tgt := 99) dX5_readLine_23 76 (by rw [h5]; decide) (by decide) ?_
      refine px_aload_n dX5_readLine_99 rfl rfl ?_
      refine px_forget (ls' := [.null]) ?_ ⟨Or.inl rfl, trivial⟩
      exact px_callV (As := []) (st := []) (rc := 0) (rs := 0) (mc := 0) (ms := 0) dX5_readLine_100 lk_5_71 (px_sh1 hw sh_16) rfl rfl (Nat.le_of_ble_eq_true rfl) (k4 h1 h2 h3 h4 h5)
    by_cases h6 : (pw_I w 17 5) = 4
    ·
      refine px_table (tgt := 89) dX5_readLine_23 66 (by rw [h6]; decide) (by decide) ?_
      refine px_aload_n dX5_readLine_89 rfl rfl ?_
      refine px_forget (ls' := [.null]) ?_ ⟨Or.inl rfl, trivial⟩
      exact px_callV (As := []) (st := []) (rc := 0) (rs := 0) (mc := 0) (ms := 0) dX5_readLine_90 lk_5_65 (px_sh1 hw sh_16) rfl rfl (Nat.le_of_ble_eq_true rfl) (k5 h1 h2 h3 h4 h5 h6)
    by_cases h7 : (pw_I w 17 5) = 5
    ·
      refine px_table (tgt := 192) dX5_readLine_23 169 (by rw [h7]; decide) (by decide) ?_
      refine px_aload_n dX5_readLine_192 rfl rfl ?_
      refine px_forget (ls' := [.null]) ?_ ⟨Or.inl rfl, trivial⟩
      exact px_callV (As := []) (st := []) (rc := 0) (rs := 0) (mc := 0) (ms := 0) dX5_readLine_193 lk_5_56 (px_sh1 hw sh_16) rfl rfl (Nat.le_of_ble_eq_true rfl) (k6 h1 h2 h3 h4 h5 h6 h7)
    by_cases h8 : (pw_I w 17 5) = 6
    ·
      refine px_table (tgt := 94) dX5_readLine_23 71 (by rw [h8]; decide) (by decide) ?_
      refine px_aload_n dX5_readLine_94 rfl rfl ?_
      refine px_forget (ls' := [.null]) ?_ ⟨Or.inl rfl, trivial⟩
      exact px_callV (As := []) (st := []) (rc := 0) (rs := 0) (mc := 0) (ms := 0) dX5_readLine_95 lk_5_68 (px_sh1 hw sh_16) rfl rfl (Nat.le_of_ble_eq_true rfl) (k7 h1 h2 h3 h4 h5 h6 h7 h8)
    by_cases h9 : (pw_I w 17 5) = 7
    ·
      refine px_table (tgt := 192) dX5_readLine_23 169 (by rw [h9]; decide) (by decide) ?_
      refine px_aload_n dX5_readLine_192 rfl rfl ?_
      refine px_forget (ls' := [.null]) ?_ ⟨Or.inl rfl, trivial⟩
      exact px_callV (As := []) (st := []) (rc := 0) (rs := 0) (mc := 0) (ms := 0) dX5_readLine_193 lk_5_56 (px_sh1 hw sh_16) rfl rfl (Nat.le_of_ble_eq_true rfl) (k8 h1 h2 h3 h4 h5 h6 h7 h8 h9)
    by_cases h10 : (pw_I w 17 5) = 8
    ·
      refine px_table (tgt := 192) dX5_readLine_23 169 (by rw [h10]; decide) (by decide) ?_
      refine px_aload_n dX5_readLine_192 rfl rfl ?_
      refine px_forget (ls' := [.null]) ?_ ⟨Or.inl rfl, trivial⟩
      exact px_callV (As := []) (st := []) (rc := 0) (rs := 0) (mc := 0) (ms := 0) dX5_readLine_193 lk_5_56 (px_sh1 hw sh_16) rfl rfl (Nat.le_of_ble_eq_true rfl) (k9 h1 h2 h3 h4 h5 h6 h7 h8 h9 h10)
    by_cases h11 : (pw_I w 17 5) = 9
    ·
      refine px_table (tgt := 104) dX5_readLine_23 81 (by rw [h11]; decide) (by decide) ?_
      refine px_aload_n dX5_readLine_104 rfl rfl ?_
      refine px_getR (v := t.2.1) dX5_readLine_105 fr_5_28 rfl (px_sh1 hw sh_16) (px_rf hw rf_16_3) ht2.ne ?_
      refine px_aload_n dX5_readLine_108 rfl rfl ?_
      refine px_bipush dX5_readLine_109 bp_9 ?_
      refine px_iconst dX5_readLine_111 ic_1 ?_
      refine px_bipush dX5_readLine_112 bp_99 ?_
      exact px_callV (As := [.int 9, .int 1, .int 99]) (st := [.ref t.2.1]) (rc := 0) (rs := 0) (mc := 0) (ms := 0) dX5_readLine_114 lk_5_74 (px_sh1 hw sh_16) rfl rfl (Nat.le_of_ble_eq_true rfl) (k10 h1 h2 h3 h4 h5 h6 h7 h8 h9 h10 h11)
    by_cases h12 : (pw_I w 17 5) = 10
    ·
      refine px_table (tgt := 133) dX5_readLine_23 110 (by rw [h12]; decide) (by decide) ?_
      refine px_aload_n dX5_readLine_133 rfl rfl ?_
      refine px_getR (v := t.2.1) dX5_readLine_134 fr_5_28 rfl (px_sh1 hw sh_16) (px_rf hw rf_16_3) ht2.ne ?_
      refine px_aload_n dX5_readLine_137 rfl rfl ?_
      refine px_bipush dX5_readLine_138 bp_10 ?_
      refine px_iconst dX5_readLine_140 ic_0 ?_
      refine px_bipush dX5_readLine_141 bp_100 ?_
      exact px_callV (As := [.int 10, .int 0, .int 100]) (st := [.ref t.2.1]) (rc := 0) (rs := 0) (mc := 0) (ms := 0) dX5_readLine_143 lk_5_74 (px_sh1 hw sh_16) rfl rfl (Nat.le_of_ble_eq_true rfl) (k11 h1 h2 h3 h4 h5 h6 h7 h8 h9 h10 h11 h12)
    by_cases h13 : (pw_I w 17 5) = 11
    ·
      refine px_table (tgt := 162) dX5_readLine_23 139 (by rw [h13]; decide) (by decide) ?_
      refine px_aload_n dX5_readLine_162 rfl rfl ?_
      refine px_getR (v := t.2.1) dX5_readLine_163 fr_5_28 rfl (px_sh1 hw sh_16) (px_rf hw rf_16_3) ht2.ne ?_
      refine px_aload_n dX5_readLine_166 rfl rfl ?_
      refine px_bipush dX5_readLine_167 bp_11 ?_
      refine px_iconst dX5_readLine_169 ic_0 ?_
      refine px_sipush dX5_readLine_170 sp_999 ?_
      exact px_callV (As := [.int 11, .int 0, .int 999]) (st := [.ref t.2.1]) (rc := 0) (rs := 0) (mc := 0) (ms := 0) dX5_readLine_173 lk_5_74 (px_sh1 hw sh_16) rfl rfl (Nat.le_of_ble_eq_true rfl) (k12 h1 h2 h3 h4 h5 h6 h7 h8 h9 h10 h11 h12 h13)
    refine px_table (tgt := 192) dX5_readLine_23 169 (by have a0 := lv_neT h2 (show (0 : Int32).toInt = 0 from by decide); have a1 := lv_neT h3 (show (1 : Int32).toInt = 1 from by decide); have a2 := lv_neT h4 (show (2 : Int32).toInt = 2 from by decide); have a3 := lv_neT h5 (show (3 : Int32).toInt = 3 from by decide); have a4 := lv_neT h6 (show (4 : Int32).toInt = 4 from by decide); have a5 := lv_neT h7 (show (5 : Int32).toInt = 5 from by decide); have a6 := lv_neT h8 (show (6 : Int32).toInt = 6 from by decide); have a7 := lv_neT h9 (show (7 : Int32).toInt = 7 from by decide); have a8 := lv_neT h10 (show (8 : Int32).toInt = 8 from by decide); have a9 := lv_neT h11 (show (9 : Int32).toInt = 9 from by decide); have a10 := lv_neT h12 (show (10 : Int32).toInt = 10 from by decide); have a11 := lv_neT h13 (show (11 : Int32).toInt = 11 from by decide); rw [if_pos (by omega)]) (by decide) ?_
    refine px_aload_n dX5_readLine_192 rfl rfl ?_
    refine px_forget (ls' := [.null]) ?_ ⟨Or.inl rfl, trivial⟩
    exact px_callV (As := []) (st := []) (rc := 0) (rs := 0) (mc := 0) (ms := 0) dX5_readLine_193 lk_5_56 (px_sh1 hw sh_16) rfl rfl (Nat.le_of_ble_eq_true rfl) (k13 h1 h2 h3 h4 h5 h6 h7 h8 h9 h10 h11 h12 h13)
  ·
    refine px_aload_n dX5_readLine_11 rfl rfl ?_
    refine px_forget (ls' := [.null]) ?_ ⟨Or.inl rfl, trivial⟩
    exact px_callV (As := []) (st := []) (rc := 0) (rs := 0) (mc := 0) (ms := 0) dX5_readLine_12 lk_5_56 (px_sh1 hw sh_16) rfl rfl (Nat.le_of_ble_eq_true rfl) (k14 h1)
theorem eX5_readLine {E : px_E} {d : Nat} {w : pw_W} {Q : Option Value → pw_W → Prop} {t : ct_T} (hw : w.1 = cs t) (ht2 : is_Hamlet t.2.1) 
    (k1 : (pw_I w 17 4) = 4 → (pw_I w 17 5) = 0 → px_Call E d 0 0 mX5_readPerson [.ref 16] w (fun v w' => px_W E mX5_readLine (d + 1) 0 0 88 [.null] (v.toList ++ []) w' Q))
    (k2 : (pw_I w 17 4) = 4 → ¬ (pw_I w 17 5) = 0 → (pw_I w 17 5) = 1 → px_Call E d 0 0 mX5_refuse [.ref 16] w (fun v w' => px_W E mX5_readLine (d + 1) 0 0 196 [.null] (v.toList ++ []) w' Q))
    (k3 : (pw_I w 17 4) = 4 → ¬ (pw_I w 17 5) = 0 → ¬ (pw_I w 17 5) = 1 → (pw_I w 17 5) = 2 → px_Call E d 0 0 mX5_refuse [.ref 16] w (fun v w' => px_W E mX5_readLine (d + 1) 0 0 196 [.null] (v.toList ++ []) w' Q))
    (k4 : (pw_I w 17 4) = 4 → ¬ (pw_I w 17 5) = 0 → ¬ (pw_I w 17 5) = 1 → ¬ (pw_I w 17 5) = 2 → (pw_I w 17 5) = 3 → px_Call E d 0 0 mX5_readFormula [.ref 16] w (fun v w' => px_W E mX5_readLine (d + 1) 0 0 103 [.null] (v.toList ++ []) w' Q))
    (k5 : (pw_I w 17 4) = 4 → ¬ (pw_I w 17 5) = 0 → ¬ (pw_I w 17 5) = 1 → ¬ (pw_I w 17 5) = 2 → ¬ (pw_I w 17 5) = 3 → (pw_I w 17 5) = 4 → px_Call E d 0 0 mX5_readMeeting [.ref 16] w (fun v w' => px_W E mX5_readLine (d + 1) 0 0 93 [.null] (v.toList ++ []) w' Q))
    (k6 : (pw_I w 17 4) = 4 → ¬ (pw_I w 17 5) = 0 → ¬ (pw_I w 17 5) = 1 → ¬ (pw_I w 17 5) = 2 → ¬ (pw_I w 17 5) = 3 → ¬ (pw_I w 17 5) = 4 → (pw_I w 17 5) = 5 → px_Call E d 0 0 mX5_refuse [.ref 16] w (fun v w' => px_W E mX5_readLine (d + 1) 0 0 196 [.null] (v.toList ++ []) w' Q))
    (k7 : (pw_I w 17 4) = 4 → ¬ (pw_I w 17 5) = 0 → ¬ (pw_I w 17 5) = 1 → ¬ (pw_I w 17 5) = 2 → ¬ (pw_I w 17 5) = 3 → ¬ (pw_I w 17 5) = 4 → ¬ (pw_I w 17 5) = 5 → (pw_I w 17 5) = 6 → px_Call E d 0 0 mX5_readBrother [.ref 16] w (fun v w' => px_W E mX5_readLine (d + 1) 0 0 98 [.null] (v.toList ++ []) w' Q))
    (k8 : (pw_I w 17 4) = 4 → ¬ (pw_I w 17 5) = 0 → ¬ (pw_I w 17 5) = 1 → ¬ (pw_I w 17 5) = 2 → ¬ (pw_I w 17 5) = 3 → ¬ (pw_I w 17 5) = 4 → ¬ (pw_I w 17 5) = 5 → ¬ (pw_I w 17 5) = 6 → (pw_I w 17 5) = 7 → px_Call E d 0 0 mX5_refuse [.ref 16] w (fun v w' => px_W E mX5_readLine (d + 1) 0 0 196 [.null] (v.toList ++ []) w' Q))
    (k9 : (pw_I w 17 4) = 4 → ¬ (pw_I w 17 5) = 0 → ¬ (pw_I w 17 5) = 1 → ¬ (pw_I w 17 5) = 2 → ¬ (pw_I w 17 5) = 3 → ¬ (pw_I w 17 5) = 4 → ¬ (pw_I w 17 5) = 5 → ¬ (pw_I w 17 5) = 6 → ¬ (pw_I w 17 5) = 7 → (pw_I w 17 5) = 8 → px_Call E d 0 0 mX5_refuse [.ref 16] w (fun v w' => px_W E mX5_readLine (d + 1) 0 0 196 [.null] (v.toList ++ []) w' Q))
    (k10 : (pw_I w 17 4) = 4 → ¬ (pw_I w 17 5) = 0 → ¬ (pw_I w 17 5) = 1 → ¬ (pw_I w 17 5) = 2 → ¬ (pw_I w 17 5) = 3 → ¬ (pw_I w 17 5) = 4 → ¬ (pw_I w 17 5) = 5 → ¬ (pw_I w 17 5) = 6 → ¬ (pw_I w 17 5) = 7 → ¬ (pw_I w 17 5) = 8 → (pw_I w 17 5) = 9 → px_Call E d 0 0 mX5_readSetting [.ref 16, .int 9, .int 1, .int 99] w (fun v w' => px_W E mX5_readLine (d + 1) 0 0 117 [.ref 16] (v.toList ++ [.ref t.2.1]) w' Q))
    (k11 : (pw_I w 17 4) = 4 → ¬ (pw_I w 17 5) = 0 → ¬ (pw_I w 17 5) = 1 → ¬ (pw_I w 17 5) = 2 → ¬ (pw_I w 17 5) = 3 → ¬ (pw_I w 17 5) = 4 → ¬ (pw_I w 17 5) = 5 → ¬ (pw_I w 17 5) = 6 → ¬ (pw_I w 17 5) = 7 → ¬ (pw_I w 17 5) = 8 → ¬ (pw_I w 17 5) = 9 → (pw_I w 17 5) = 10 → px_Call E d 0 0 mX5_readSetting [.ref 16, .int 10, .int 0, .int 100] w (fun v w' => px_W E mX5_readLine (d + 1) 0 0 146 [.ref 16] (v.toList ++ [.ref t.2.1]) w' Q))
    (k12 : (pw_I w 17 4) = 4 → ¬ (pw_I w 17 5) = 0 → ¬ (pw_I w 17 5) = 1 → ¬ (pw_I w 17 5) = 2 → ¬ (pw_I w 17 5) = 3 → ¬ (pw_I w 17 5) = 4 → ¬ (pw_I w 17 5) = 5 → ¬ (pw_I w 17 5) = 6 → ¬ (pw_I w 17 5) = 7 → ¬ (pw_I w 17 5) = 8 → ¬ (pw_I w 17 5) = 9 → ¬ (pw_I w 17 5) = 10 → (pw_I w 17 5) = 11 → px_Call E d 0 0 mX5_readSetting [.ref 16, .int 11, .int 0, .int 999] w (fun v w' => px_W E mX5_readLine (d + 1) 0 0 176 [.ref 16] (v.toList ++ [.ref t.2.1]) w' Q))
    (k13 : (pw_I w 17 4) = 4 → ¬ (pw_I w 17 5) = 0 → ¬ (pw_I w 17 5) = 1 → ¬ (pw_I w 17 5) = 2 → ¬ (pw_I w 17 5) = 3 → ¬ (pw_I w 17 5) = 4 → ¬ (pw_I w 17 5) = 5 → ¬ (pw_I w 17 5) = 6 → ¬ (pw_I w 17 5) = 7 → ¬ (pw_I w 17 5) = 8 → ¬ (pw_I w 17 5) = 9 → ¬ (pw_I w 17 5) = 10 → ¬ (pw_I w 17 5) = 11 → px_Call E d 0 0 mX5_refuse [.ref 16] w (fun v w' => px_W E mX5_readLine (d + 1) 0 0 196 [.null] (v.toList ++ []) w' Q))
    (k14 : ¬ (pw_I w 17 4) = 4 → px_Call E d 0 0 mX5_refuse [.ref 16] w (fun v w' => px_W E mX5_readLine (d + 1) 0 0 15 [.null] (v.toList ++ []) w' Q)) :
    px_Call E (d + 1) 0 0 mX5_readLine [.ref 16] w Q :=
  px_enter (k := 0) (by decide) (Nat.le_of_ble_eq_true rfl) rfl (px_forget (bX5_readLine_0 hw ht2 k1 k2 k3 k4 k5 k6 k7 k8 k9 k10 k11 k12 k13 k14) ⟨Or.inr rfl, trivial⟩)
theorem bX5_readLine_15 {E : px_E} {d : Nat} {w : pw_W} {Q : Option Value → pw_W → Prop} {t : ct_T} (hw : w.1 = cs t) {y0 : Int32} (ht2 : is_Hamlet t.2.1) (hb1 : y0 = 0 ∨ y0 = 1)
    (k1 : Q (some (.int y0)) w) :
    px_W E mX5_readLine (d + 1) 0 0 15 [.null] [.int y0] w Q := by
  exact px_ireturn dX5_readLine_15 rfl (px_nb (hb1)) k1
theorem bX5_readLine_88 {E : px_E} {d : Nat} {w : pw_W} {Q : Option Value → pw_W → Prop} {t : ct_T} (hw : w.1 = cs t) {y0 : Int32} (ht2 : is_Hamlet t.2.1) (hb1 : y0 = 0 ∨ y0 = 1)
    (k1 : Q (some (.int y0)) w) :
    px_W E mX5_readLine (d + 1) 0 0 88 [.null] [.int y0] w Q := by
  exact px_ireturn dX5_readLine_88 rfl (px_nb (hb1)) k1
theorem bX5_readLine_93 {E : px_E} {d : Nat} {w : pw_W} {Q : Option Value → pw_W → Prop} {t : ct_T} (hw : w.1 = cs t) {y0 : Int32} (ht2 : is_Hamlet t.2.1) (hb1 : y0 = 0 ∨ y0 = 1)
    (k1 : Q (some (.int y0)) w) :
    px_W E mX5_readLine (d + 1) 0 0 93 [.null] [.int y0] w Q := by
  exact px_ireturn dX5_readLine_93 rfl (px_nb (hb1)) k1
theorem bX5_readLine_98 {E : px_E} {d : Nat} {w : pw_W} {Q : Option Value → pw_W → Prop} {t : ct_T} (hw : w.1 = cs t) {y0 : Int32} (ht2 : is_Hamlet t.2.1) (hb1 : y0 = 0 ∨ y0 = 1)
    (k1 : Q (some (.int y0)) w) :
    px_W E mX5_readLine (d + 1) 0 0 98 [.null] [.int y0] w Q := by
  exact px_ireturn dX5_readLine_98 rfl (px_nb (hb1)) k1
theorem bX5_readLine_103 {E : px_E} {d : Nat} {w : pw_W} {Q : Option Value → pw_W → Prop} {t : ct_T} (hw : w.1 = cs t) {y0 : Int32} (ht2 : is_Hamlet t.2.1) (hb1 : y0 = 0 ∨ y0 = 1)
    (k1 : Q (some (.int y0)) w) :
    px_W E mX5_readLine (d + 1) 0 0 103 [.null] [.int y0] w Q := by
  exact px_ireturn dX5_readLine_103 rfl (px_nb (hb1)) k1
theorem bX5_readLine_117 {E : px_E} {d : Nat} {w : pw_W} {Q : Option Value → pw_W → Prop} {t : ct_T} (hw : w.1 = cs t) {y1 : Int32} (ht2 : is_Hamlet t.2.1) 
    (k1 : ¬ (pw_I (pw_sI w t.2.1 12 y1) 16 5) = 0 → px_W E mX5_readLine (d + 1) 0 0 132 [.null] [.int 0] (pw_sI w t.2.1 12 y1) Q)
    (k2 : (pw_I (pw_sI w t.2.1 12 y1) 16 5) = 0 → px_W E mX5_readLine (d + 1) 0 0 132 [.null] [.int 1] (pw_sI w t.2.1 12 y1) Q) :
    px_W E mX5_readLine (d + 1) 0 0 117 [.ref 16] [.int y1, .ref t.2.1] w Q := by
  refine px_putI dX5_readLine_117 fl_5_78 (Or.inl rfl) rfl (px_sh1 hw ht2.sh) rfl rfl (by omega) ?_
  refine px_aload_n dX5_readLine_120 rfl rfl ?_
  refine px_getI dX5_readLine_121 fr_5_39 rfl (px_sh1 (hI hw) sh_16) ?_
  refine px_if_ne (tgt := 131) dX5_readLine_124 (by decide) (fun h1 => ?_) (fun h1 => ?_)
  ·
    refine px_iconst dX5_readLine_131 ic_0 ?_
    exact px_forget (k1 h1) ⟨Or.inl rfl, trivial⟩
  ·
    refine px_iconst dX5_readLine_127 ic_1 ?_
    refine px_goto (tgt := 132) dX5_readLine_128 (by decide) ?_
    exact px_forget (k2 h1) ⟨Or.inl rfl, trivial⟩
theorem bX5_readLine_132 {E : px_E} {d : Nat} {w : pw_W} {Q : Option Value → pw_W → Prop} {t : ct_T} (hw : w.1 = cs t) {y0 : Int32} (ht2 : is_Hamlet t.2.1) (hb1 : y0 = 0 ∨ y0 = 1)
    (k1 : Q (some (.int y0)) w) :
    px_W E mX5_readLine (d + 1) 0 0 132 [.null] [.int y0] w Q := by
  exact px_ireturn dX5_readLine_132 rfl (px_nb (hb1)) k1
theorem bX5_readLine_146 {E : px_E} {d : Nat} {w : pw_W} {Q : Option Value → pw_W → Prop} {t : ct_T} (hw : w.1 = cs t) {y1 : Int32} (ht2 : is_Hamlet t.2.1) 
    (k1 : ¬ (pw_I (pw_sI w t.2.1 13 y1) 16 5) = 0 → px_W E mX5_readLine (d + 1) 0 0 161 [.null] [.int 0] (pw_sI w t.2.1 13 y1) Q)
    (k2 : (pw_I (pw_sI w t.2.1 13 y1) 16 5) = 0 → px_W E mX5_readLine (d + 1) 0 0 161 [.null] [.int 1] (pw_sI w t.2.1 13 y1) Q) :
    px_W E mX5_readLine (d + 1) 0 0 146 [.ref 16] [.int y1, .ref t.2.1] w Q := by
  refine px_putI dX5_readLine_146 fl_5_81 (Or.inl rfl) rfl (px_sh1 hw ht2.sh) rfl rfl (by omega) ?_
  refine px_aload_n dX5_readLine_149 rfl rfl ?_
  refine px_getI dX5_readLine_150 fr_5_39 rfl (px_sh1 (hI hw) sh_16) ?_
  refine px_if_ne (tgt := 160) dX5_readLine_153 (by decide) (fun h1 => ?_) (fun h1 => ?_)
  ·
    refine px_iconst dX5_readLine_160 ic_0 ?_
    exact px_forget (k1 h1) ⟨Or.inl rfl, trivial⟩
  ·
    refine px_iconst dX5_readLine_156 ic_1 ?_
    refine px_goto (tgt := 161) dX5_readLine_157 (by decide) ?_
    exact px_forget (k2 h1) ⟨Or.inl rfl, trivial⟩
theorem bX5_readLine_161 {E : px_E} {d : Nat} {w : pw_W} {Q : Option Value → pw_W → Prop} {t : ct_T} (hw : w.1 = cs t) {y0 : Int32} (ht2 : is_Hamlet t.2.1) (hb1 : y0 = 0 ∨ y0 = 1)
    (k1 : Q (some (.int y0)) w) :
    px_W E mX5_readLine (d + 1) 0 0 161 [.null] [.int y0] w Q := by
  exact px_ireturn dX5_readLine_161 rfl (px_nb (hb1)) k1
theorem bX5_readLine_176 {E : px_E} {d : Nat} {w : pw_W} {Q : Option Value → pw_W → Prop} {t : ct_T} (hw : w.1 = cs t) {y1 : Int32} (ht2 : is_Hamlet t.2.1) 
    (k1 : ¬ (pw_I (pw_sI w t.2.1 14 y1) 16 5) = 0 → px_W E mX5_readLine (d + 1) 0 0 191 [.null] [.int 0] (pw_sI w t.2.1 14 y1) Q)
    (k2 : (pw_I (pw_sI w t.2.1 14 y1) 16 5) = 0 → px_W E mX5_readLine (d + 1) 0 0 191 [.null] [.int 1] (pw_sI w t.2.1 14 y1) Q) :
    px_W E mX5_readLine (d + 1) 0 0 176 [.ref 16] [.int y1, .ref t.2.1] w Q := by
  refine px_putI dX5_readLine_176 fl_5_84 (Or.inl rfl) rfl (px_sh1 hw ht2.sh) rfl rfl (by omega) ?_
  refine px_aload_n dX5_readLine_179 rfl rfl ?_
  refine px_getI dX5_readLine_180 fr_5_39 rfl (px_sh1 (hI hw) sh_16) ?_
  refine px_if_ne (tgt := 190) dX5_readLine_183 (by decide) (fun h1 => ?_) (fun h1 => ?_)
  ·
    refine px_iconst dX5_readLine_190 ic_0 ?_
    exact px_forget (k1 h1) ⟨Or.inl rfl, trivial⟩
  ·
    refine px_iconst dX5_readLine_186 ic_1 ?_
    refine px_goto (tgt := 191) dX5_readLine_187 (by decide) ?_
    exact px_forget (k2 h1) ⟨Or.inl rfl, trivial⟩
theorem bX5_readLine_191 {E : px_E} {d : Nat} {w : pw_W} {Q : Option Value → pw_W → Prop} {t : ct_T} (hw : w.1 = cs t) {y0 : Int32} (ht2 : is_Hamlet t.2.1) (hb1 : y0 = 0 ∨ y0 = 1)
    (k1 : Q (some (.int y0)) w) :
    px_W E mX5_readLine (d + 1) 0 0 191 [.null] [.int y0] w Q := by
  exact px_ireturn dX5_readLine_191 rfl (px_nb (hb1)) k1
theorem bX5_readLine_196 {E : px_E} {d : Nat} {w : pw_W} {Q : Option Value → pw_W → Prop} {t : ct_T} (hw : w.1 = cs t) {y0 : Int32} (ht2 : is_Hamlet t.2.1) (hb1 : y0 = 0 ∨ y0 = 1)
    (k1 : Q (some (.int y0)) w) :
    px_W E mX5_readLine (d + 1) 0 0 196 [.null] [.int y0] w Q := by
  exact px_ireturn dX5_readLine_196 rfl (px_nb (hb1)) k1
theorem dX5_readPerson_0 : decode mX5_readPerson.2.1 0 = .ok (.aload_n 0, 1) := by decide +kernel
theorem dX5_readPerson_1 : decode mX5_readPerson.2.1 1 = .ok (.getfield 28, 3) := by decide +kernel
theorem dX5_readPerson_4 : decode mX5_readPerson.2.1 4 = .ok (.getfield 87, 3) := by decide +kernel
theorem dX5_readPerson_7 : decode mX5_readPerson.2.1 7 = .ok (.istore_n 1, 1) := by decide +kernel
theorem dX5_readPerson_8 : decode mX5_readPerson.2.1 8 = .ok (.iload_n 1, 1) := by decide +kernel
theorem dX5_readPerson_9 : decode mX5_readPerson.2.1 9 = .ok (.bipush 6, 2) := by decide +kernel
theorem dX5_readPerson_11 : decode mX5_readPerson.2.1 11 = .ok (.if_icmp .lt 8, 3) := by decide +kernel
theorem dX5_readPerson_14 : decode mX5_readPerson.2.1 14 = .ok (.aload_n 0, 1) := by decide +kernel
theorem dX5_readPerson_15 : decode mX5_readPerson.2.1 15 = .ok (.invokevirtual 56, 3) := by decide +kernel
theorem dX5_readPerson_18 : decode mX5_readPerson.2.1 18 = .ok (.ireturn, 1) := by decide +kernel
theorem dX5_readPerson_19 : decode mX5_readPerson.2.1 19 = .ok (.aload_n 0, 1) := by decide +kernel
theorem dX5_readPerson_20 : decode mX5_readPerson.2.1 20 = .ok (.getfield 12, 3) := by decide +kernel
theorem dX5_readPerson_23 : decode mX5_readPerson.2.1 23 = .ok (.invokevirtual 90, 3) := by decide +kernel
theorem dX5_readPerson_26 : decode mX5_readPerson.2.1 26 = .ok (.aload_n 0, 1) := by decide +kernel
theorem dX5_readPerson_27 : decode mX5_readPerson.2.1 27 = .ok (.aload_n 0, 1) := by decide +kernel
theorem dX5_readPerson_28 : decode mX5_readPerson.2.1 28 = .ok (.getfield 18, 3) := by decide +kernel
theorem dX5_readPerson_31 : decode mX5_readPerson.2.1 31 = .ok (.iload_n 1, 1) := by decide +kernel
theorem dX5_readPerson_32 : decode mX5_readPerson.2.1 32 = .ok (.invokevirtual 93, 3) := by decide +kernel
theorem dX5_readPerson_35 : decode mX5_readPerson.2.1 35 = .ok (.ifCond .ne 5, 3) := by decide +kernel
theorem dX5_readPerson_38 : decode mX5_readPerson.2.1 38 = .ok (.iconst 0, 1) := by decide +kernel
theorem dX5_readPerson_39 : decode mX5_readPerson.2.1 39 = .ok (.ireturn, 1) := by decide +kernel
theorem dX5_readPerson_40 : decode mX5_readPerson.2.1 40 = .ok (.aload_n 0, 1) := by decide +kernel
theorem dX5_readPerson_41 : decode mX5_readPerson.2.1 41 = .ok (.getfield 28, 3) := by decide +kernel
theorem dX5_readPerson_44 : decode mX5_readPerson.2.1 44 = .ok (.getfield 97, 3) := by decide +kernel
theorem dX5_readPerson_47 : decode mX5_readPerson.2.1 47 = .ok (.iload_n 1, 1) := by decide +kernel
theorem dX5_readPerson_48 : decode mX5_readPerson.2.1 48 = .ok (.aload_n 0, 1) := by decide +kernel
theorem dX5_readPerson_49 : decode mX5_readPerson.2.1 49 = .ok (.iconst 1, 1) := by decide +kernel
theorem dX5_readPerson_50 : decode mX5_readPerson.2.1 50 = .ok (.iconst 0, 1) := by decide +kernel
theorem dX5_readPerson_51 : decode mX5_readPerson.2.1 51 = .ok (.bipush 30, 2) := by decide +kernel
theorem dX5_readPerson_53 : decode mX5_readPerson.2.1 53 = .ok (.invokevirtual 101, 3) := by decide +kernel
theorem dX5_readPerson_56 : decode mX5_readPerson.2.1 56 = .ok (.iastore, 1) := by decide +kernel
theorem dX5_readPerson_57 : decode mX5_readPerson.2.1 57 = .ok (.aload_n 0, 1) := by decide +kernel
theorem dX5_readPerson_58 : decode mX5_readPerson.2.1 58 = .ok (.getfield 28, 3) := by decide +kernel
theorem dX5_readPerson_61 : decode mX5_readPerson.2.1 61 = .ok (.getfield 104, 3) := by decide +kernel
theorem dX5_readPerson_64 : decode mX5_readPerson.2.1 64 = .ok (.iload_n 1, 1) := by decide +kernel
theorem dX5_readPerson_65 : decode mX5_readPerson.2.1 65 = .ok (.aload_n 0, 1) := by decide +kernel
theorem dX5_readPerson_66 : decode mX5_readPerson.2.1 66 = .ok (.getfield 12, 3) := by decide +kernel
theorem dX5_readPerson_69 : decode mX5_readPerson.2.1 69 = .ok (.iconst 2, 1) := by decide +kernel
theorem dX5_readPerson_70 : decode mX5_readPerson.2.1 70 = .ok (.invokevirtual 107, 3) := by decide +kernel
theorem dX5_readPerson_73 : decode mX5_readPerson.2.1 73 = .ok (.ifCond .eq 14, 3) := by decide +kernel
theorem dX5_readPerson_76 : decode mX5_readPerson.2.1 76 = .ok (.aload_n 0, 1) := by decide +kernel
theorem dX5_readPerson_77 : decode mX5_readPerson.2.1 77 = .ok (.iconst 2, 1) := by decide +kernel
theorem dX5_readPerson_78 : decode mX5_readPerson.2.1 78 = .ok (.iconst 0, 1) := by decide +kernel
theorem dX5_readPerson_79 : decode mX5_readPerson.2.1 79 = .ok (.bipush 9, 2) := by decide +kernel
theorem dX5_readPerson_81 : decode mX5_readPerson.2.1 81 = .ok (.invokevirtual 101, 3) := by decide +kernel
theorem dX5_readPerson_84 : decode mX5_readPerson.2.1 84 = .ok (.goto 4, 3) := by decide +kernel
theorem dX5_readPerson_87 : decode mX5_readPerson.2.1 87 = .ok (.iconst 0, 1) := by decide +kernel
theorem dX5_readPerson_88 : decode mX5_readPerson.2.1 88 = .ok (.iastore, 1) := by decide +kernel
theorem dX5_readPerson_89 : decode mX5_readPerson.2.1 89 = .ok (.aload_n 0, 1) := by decide +kernel
theorem dX5_readPerson_90 : decode mX5_readPerson.2.1 90 = .ok (.getfield 28, 3) := by decide +kernel
theorem dX5_readPerson_93 : decode mX5_readPerson.2.1 93 = .ok (.getfield 111, 3) := by decide +kernel
theorem dX5_readPerson_96 : decode mX5_readPerson.2.1 96 = .ok (.iload_n 1, 1) := by decide +kernel
theorem dX5_readPerson_97 : decode mX5_readPerson.2.1 97 = .ok (.aload_n 0, 1) := by decide +kernel
theorem dX5_readPerson_98 : decode mX5_readPerson.2.1 98 = .ok (.getfield 12, 3) := by decide +kernel
theorem dX5_readPerson_101 : decode mX5_readPerson.2.1 101 = .ok (.iconst 3, 1) := by decide +kernel
theorem dX5_readPerson_102 : decode mX5_readPerson.2.1 102 = .ok (.invokevirtual 107, 3) := by decide +kernel
theorem dX5_readPerson_105 : decode mX5_readPerson.2.1 105 = .ok (.ifCond .eq 14, 3) := by decide +kernel
theorem dX5_readPerson_108 : decode mX5_readPerson.2.1 108 = .ok (.aload_n 0, 1) := by decide +kernel
theorem dX5_readPerson_109 : decode mX5_readPerson.2.1 109 = .ok (.iconst 3, 1) := by decide +kernel
theorem dX5_readPerson_110 : decode mX5_readPerson.2.1 110 = .ok (.iconst 0, 1) := by decide +kernel
theorem dX5_readPerson_111 : decode mX5_readPerson.2.1 111 = .ok (.bipush 99, 2) := by decide +kernel
theorem dX5_readPerson_113 : decode mX5_readPerson.2.1 113 = .ok (.invokevirtual 101, 3) := by decide +kernel
theorem dX5_readPerson_116 : decode mX5_readPerson.2.1 116 = .ok (.goto 4, 3) := by decide +kernel
theorem dX5_readPerson_119 : decode mX5_readPerson.2.1 119 = .ok (.iconst 0, 1) := by decide +kernel
theorem dX5_readPerson_120 : decode mX5_readPerson.2.1 120 = .ok (.iastore, 1) := by decide +kernel
theorem dX5_readPerson_121 : decode mX5_readPerson.2.1 121 = .ok (.aload_n 0, 1) := by decide +kernel
theorem dX5_readPerson_122 : decode mX5_readPerson.2.1 122 = .ok (.getfield 28, 3) := by decide +kernel
theorem dX5_readPerson_125 : decode mX5_readPerson.2.1 125 = .ok (.dup, 1) := by decide +kernel
theorem dX5_readPerson_126 : decode mX5_readPerson.2.1 126 = .ok (.getfield 87, 3) := by decide +kernel
theorem dX5_readPerson_129 : decode mX5_readPerson.2.1 129 = .ok (.iconst 1, 1) := by decide +kernel
theorem dX5_readPerson_130 : decode mX5_readPerson.2.1 130 = .ok (.iadd, 1) := by decide +kernel
theorem dX5_readPerson_131 : decode mX5_readPerson.2.1 131 = .ok (.putfield 87, 3) := by decide +kernel
theorem dX5_readPerson_134 : decode mX5_readPerson.2.1 134 = .ok (.aload_n 0, 1) := by decide +kernel
theorem dX5_readPerson_135 : decode mX5_readPerson.2.1 135 = .ok (.invokevirtual 114, 3) := by decide +kernel
theorem dX5_readPerson_138 : decode mX5_readPerson.2.1 138 = .ok (.ireturn, 1) := by decide +kernel
theorem bX5_readPerson_0 {E : px_E} {d : Nat} {w : pw_W} {Q : Option Value → pw_W → Prop} {t : ct_T} (hw : w.1 = cs t) (ht2 : is_Hamlet t.2.1) 
    (k1 : (pw_I w t.2.1 0) < 6 → px_Call E (d + 1) 0 0 mX6_advance [.ref 17] w (fun v w' => px_W E mX5_readPerson (d + 2) 0 0 26 [.ref 16, .int (pw_I w t.2.1 0)] (v.toList ++ []) w' Q))
    (k2 : ¬ (pw_I w t.2.1 0) < 6 → px_Call E (d + 1) 0 0 mX5_refuse [.ref 16] w (fun v w' => px_W E mX5_readPerson (d + 2) 0 0 18 [.null, .null] (v.toList ++ []) w' Q)) :
    px_W E mX5_readPerson (d + 2) 0 0 0 [.ref 16, .null] [] w Q := by
  refine px_aload_n dX5_readPerson_0 rfl rfl ?_
  refine px_getR (v := t.2.1) dX5_readPerson_1 fr_5_28 rfl (px_sh1 hw sh_16) (px_rf hw rf_16_3) ht2.ne ?_
  refine px_getI dX5_readPerson_4 fr_5_87 rfl (px_sh1 hw ht2.sh) ?_
  refine px_istore_n (ls' := [.ref 16, .int (pw_I w t.2.1 0)]) dX5_readPerson_7 rfl ⟨by decide, rfl⟩ rfl ?_
  refine px_iload_n dX5_readPerson_8 rfl rfl ?_
  refine px_bipush dX5_readPerson_9 bp_6 ?_
  refine px_icmp_lt (tgt := 19) dX5_readPerson_11 (by decide) (fun h1 => ?_) (fun h1 => ?_)
  ·
    refine px_aload_n dX5_readPerson_19 rfl rfl ?_
    refine px_getR (v := 17) dX5_readPerson_20 fr_5_12 rfl (px_sh1 hw sh_16) (px_rf hw rf_16_0) (by decide) ?_
    exact px_callV (As := []) (st := []) (rc := 0) (rs := 0) (mc := 0) (ms := 0) dX5_readPerson_23 lk_5_90 (px_sh1 hw sh_17) rfl rfl (Nat.le_of_ble_eq_true rfl) (k1 h1)
  ·
    refine px_aload_n dX5_readPerson_14 rfl rfl ?_
    refine px_forget (ls' := [.null, .null]) ?_ ⟨Or.inl rfl, Or.inl rfl, trivial⟩
    exact px_callV (As := []) (st := []) (rc := 0) (rs := 0) (mc := 0) (ms := 0) dX5_readPerson_15 lk_5_56 (px_sh1 hw sh_16) rfl rfl (Nat.le_of_ble_eq_true rfl) (k2 h1)
theorem eX5_readPerson {E : px_E} {d : Nat} {w : pw_W} {Q : Option Value → pw_W → Prop} {t : ct_T} (hw : w.1 = cs t) (ht2 : is_Hamlet t.2.1) 
    (k1 : (pw_I w t.2.1 0) < 6 → px_Call E (d + 1) 0 0 mX6_advance [.ref 17] w (fun v w' => px_W E mX5_readPerson (d + 2) 0 0 26 [.ref 16, .int (pw_I w t.2.1 0)] (v.toList ++ []) w' Q))
    (k2 : ¬ (pw_I w t.2.1 0) < 6 → px_Call E (d + 1) 0 0 mX5_refuse [.ref 16] w (fun v w' => px_W E mX5_readPerson (d + 2) 0 0 18 [.null, .null] (v.toList ++ []) w' Q)) :
    px_Call E (d + 2) 0 0 mX5_readPerson [.ref 16] w Q :=
  px_enter (k := 1) (by decide) (Nat.le_of_ble_eq_true rfl) rfl (px_forget (bX5_readPerson_0 hw ht2 k1 k2) ⟨Or.inr rfl, Or.inl rfl, trivial⟩)
theorem bX5_readPerson_18 {E : px_E} {d : Nat} {w : pw_W} {Q : Option Value → pw_W → Prop} {t : ct_T} (hw : w.1 = cs t) {y0 : Int32} (ht2 : is_Hamlet t.2.1) (hb1 : y0 = 0 ∨ y0 = 1)
    (k1 : Q (some (.int y0)) w) :
    px_W E mX5_readPerson (d + 2) 0 0 18 [.null, .null] [.int y0] w Q := by
  exact px_ireturn dX5_readPerson_18 rfl (px_nb (hb1)) k1
theorem bX5_readPerson_26 {E : px_E} {d : Nat} {w : pw_W} {Q : Option Value → pw_W → Prop} {t : ct_T} (hw : w.1 = cs t) {x1 : Int32} (ht2 : is_Hamlet t.2.1) 
    (k1 : px_Call E (d + 1) 0 0 mX5_readNewName [.ref 16, .ref 20, .int x1] w (fun v w' => px_W E mX5_readPerson (d + 2) 0 0 35 [.ref 16, .int x1] (v.toList ++ []) w' Q)) :
    px_W E mX5_readPerson (d + 2) 0 0 26 [.ref 16, .int x1] [] w Q := by
  refine px_aload_n dX5_readPerson_26 rfl rfl ?_
  refine px_aload_n dX5_readPerson_27 rfl rfl ?_
  refine px_getR (v := 20) dX5_readPerson_28 fr_5_18 rfl (px_sh1 hw sh_16) (px_rf hw rf_16_1) (by decide) ?_
  refine px_iload_n dX5_readPerson_31 rfl rfl ?_
  exact px_callV (As := [.ref 20, .int x1]) (st := []) (rc := 0) (rs := 0) (mc := 0) (ms := 0) dX5_readPerson_32 lk_5_93 (px_sh1 hw sh_16) rfl rfl (Nat.le_of_ble_eq_true rfl) k1
theorem bX5_readPerson_35 {E : px_E} {d : Nat} {w : pw_W} {Q : Option Value → pw_W → Prop} {t : ct_T} (hw : w.1 = cs t) {x1 y0 : Int32} (ht2 : is_Hamlet t.2.1) 
    (k1 : ¬ y0 = 0 → px_Call E (d + 1) 0 0 mX5_readNumberBehind [.ref 16, .int 1, .int 0, .int 30] w (fun v w' => px_W E mX5_readPerson (d + 2) 0 0 56 [.ref 16, .int x1] (v.toList ++ [.int x1, .ref (t.2.1 + 1)]) w' Q))
    (k2 : y0 = 0 → Q (some (.int 0)) w) :
    px_W E mX5_readPerson (d + 2) 0 0 35 [.ref 16, .int x1] [.int y0] w Q := by
  refine px_if_ne (tgt := 40) dX5_readPerson_35 (by decide) (fun h1 => ?_) (fun h1 => ?_)
  ·
    refine px_aload_n dX5_readPerson_40 rfl rfl ?_
    refine px_getR (v := t.2.1) dX5_readPerson_41 fr_5_28 rfl (px_sh1 hw sh_16) (px_rf hw rf_16_3) ht2.ne ?_
    refine px_getR (v := (t.2.1 + 1)) dX5_readPerson_44 fr_5_97 rfl (px_sh1 hw ht2.sh) (px_rf hw ht2.rf1) (Nat.succ_ne_zero _) ?_
    refine px_iload_n dX5_readPerson_47 rfl rfl ?_
    refine px_aload_n dX5_readPerson_48 rfl rfl ?_
    refine px_iconst dX5_readPerson_49 ic_1 ?_
    refine px_iconst dX5_readPerson_50 ic_0 ?_
    refine px_bipush dX5_readPerson_51 bp_30 ?_
    exact px_callV (As := [.int 1, .int 0, .int 30]) (st := [.int x1, .ref (t.2.1 + 1)]) (rc := 0) (rs := 0) (mc := 0) (ms := 0) dX5_readPerson_53 lk_5_101 (px_sh1 hw sh_16) rfl rfl (Nat.le_of_ble_eq_true rfl) (k1 h1)
  ·
    refine px_iconst dX5_readPerson_38 ic_0 ?_
    exact px_ireturn dX5_readPerson_39 rfl (by decide) (k2 h1)
theorem bX5_readPerson_56 {E : px_E} {d : Nat} {w : pw_W} {Q : Option Value → pw_W → Prop} {t : ct_T} (hw : w.1 = cs t) {x1 y1 y2 : Int32} (ht2 : is_Hamlet t.2.1) (j1 : Nat) (hj1 : y1 = nI j1) (hl1 : j1 < 6)
    (k1 : ¬ (pX6_isKeyword (pw_sI w (t.2.1 + 1) j1 y2) 2) → px_W E mX5_readPerson (d + 2) 0 0 88 [.ref 16, .int x1] [.int 0, .int x1, .ref (t.2.1 + 2)] (pw_sI w (t.2.1 + 1) j1 y2) Q)
    (k2 : (pX6_isKeyword (pw_sI w (t.2.1 + 1) j1 y2) 2) → px_Call E (d + 1) 0 0 mX5_readNumberBehind [.ref 16, .int 2, .int 0, .int 9] (pw_sI w (t.2.1 + 1) j1 y2) (fun v w' => px_W E mX5_readPerson (d + 2) 0 0 84 [.ref 16, .int x1] (v.toList ++ [.int x1, .ref (t.2.1 + 2)]) w' Q)) :
    px_W E mX5_readPerson (d + 2) 0 0 56 [.ref 16, .int x1] [.int y2, .int y1, .ref (t.2.1 + 1)] w Q := by
  refine px_iast dX5_readPerson_56 (px_sh2 hw ht2.sh1) (by decide) j1 hj1 hl1 (by omega) ?_
  refine px_aload_n dX5_readPerson_57 rfl rfl ?_
  refine px_getR (v := t.2.1) dX5_readPerson_58 fr_5_28 rfl (px_sh1 (hI hw) sh_16) (px_rf (hI hw) rf_16_3) ht2.ne ?_
  refine px_getR (v := (t.2.1 + 2)) dX5_readPerson_61 fr_5_104 rfl (px_sh1 (hI hw) ht2.sh) (px_rf (hI hw) ht2.rf2) (Nat.succ_ne_zero _) ?_
  refine px_iload_n dX5_readPerson_64 rfl rfl ?_
  refine px_aload_n dX5_readPerson_65 rfl rfl ?_
  refine px_getR (v := 17) dX5_readPerson_66 fr_5_12 rfl (px_sh1 (hI hw) sh_16) (px_rf (hI hw) rf_16_0) (by decide) ?_
  refine px_iconst dX5_readPerson_69 ic_2 ?_
  refine px_callV (As := [.int 2]) (st := [.int x1, .ref (t.2.1 + 2)]) (rc := 0) (rs := 0) (mc := 0) (ms := 0) dX5_readPerson_70 lk_5_107 (px_sh1 (hI hw) sh_17) rfl rfl (Nat.le_of_ble_eq_true rfl) (sX6_isKeyword (w := (pw_sI w (t.2.1 + 1) j1 y2)) (hI hw) ?_)
  show px_W E mX5_readPerson (d + 2) 0 0 73 [.ref 16, .int x1] [.int (jb (pX6_isKeyword (pw_sI w (t.2.1 + 1) j1 y2) 2)), .int x1, .ref (t.2.1 + 2)] (pw_sI w (t.2.1 + 1) j1 y2) Q
  refine px_jb_eq (tgt := 87) dX5_readPerson_73 (by decide) (fun h1 => ?_) (fun h1 => ?_)
  ·
    refine px_iconst dX5_readPerson_87 ic_0 ?_
    exact (k1 h1)
  ·
    refine px_aload_n dX5_readPerson_76 rfl rfl ?_
    refine px_iconst dX5_readPerson_77 ic_2 ?_
    refine px_iconst dX5_readPerson_78 ic_0 ?_
    refine px_bipush dX5_readPerson_79 bp_9 ?_
    exact px_callV (As := [.int 2, .int 0, .int 9]) (st := [.int x1, .ref (t.2.1 + 2)]) (rc := 0) (rs := 0) (mc := 0) (ms := 0) dX5_readPerson_81 lk_5_101 (px_sh1 (hI hw) sh_16) rfl rfl (Nat.le_of_ble_eq_true rfl) (k2 h1)
theorem bX5_readPerson_84 {E : px_E} {d : Nat} {w : pw_W} {Q : Option Value → pw_W → Prop} {t : ct_T} (hw : w.1 = cs t) {x1 y1 y2 : Int32} (ht2 : is_Hamlet t.2.1) 
    (k1 : px_W E mX5_readPerson (d + 2) 0 0 88 [.ref 16, .int x1] [.int y2, .int y1, .ref (t.2.1 + 2)] w Q) :
    px_W E mX5_readPerson (d + 2) 0 0 84 [.ref 16, .int x1] [.int y2, .int y1, .ref (t.2.1 + 2)] w Q := by
  refine px_goto (tgt := 88) dX5_readPerson_84 (by decide) ?_
  exact k1
theorem bX5_readPerson_88 {E : px_E} {d : Nat} {w : pw_W} {Q : Option Value → pw_W → Prop} {t : ct_T} (hw : w.1 = cs t) {x1 y1 y2 : Int32} (ht2 : is_Hamlet t.2.1) (j1 : Nat) (hj1 : y1 = nI j1) (hl1 : j1 < 6)
    (k1 : ¬ (pX6_isKeyword (pw_sI w (t.2.1 + 2) j1 y2) 3) → px_W E mX5_readPerson (d + 2) 0 0 120 [.ref 16, .null] [.int 0, .int x1, .ref (t.2.1 + 3)] (pw_sI w (t.2.1 + 2) j1 y2) Q)
    (k2 : (pX6_isKeyword (pw_sI w (t.2.1 + 2) j1 y2) 3) → px_Call E (d + 1) 0 0 mX5_readNumberBehind [.ref 16, .int 3, .int 0, .int 99] (pw_sI w (t.2.1 + 2) j1 y2) (fun v w' => px_W E mX5_readPerson (d + 2) 0 0 116 [.ref 16, .null] (v.toList ++ [.int x1, .ref (t.2.1 + 3)]) w' Q)) :
    px_W E mX5_readPerson (d + 2) 0 0 88 [.ref 16, .int x1] [.int y2, .int y1, .ref (t.2.1 + 2)] w Q := by
  refine px_iast dX5_readPerson_88 (px_sh2 hw ht2.sh2) (by decide) j1 hj1 hl1 (by omega) ?_
  refine px_aload_n dX5_readPerson_89 rfl rfl ?_
  refine px_getR (v := t.2.1) dX5_readPerson_90 fr_5_28 rfl (px_sh1 (hI hw) sh_16) (px_rf (hI hw) rf_16_3) ht2.ne ?_
  refine px_getR (v := (t.2.1 + 3)) dX5_readPerson_93 fr_5_111 rfl (px_sh1 (hI hw) ht2.sh) (px_rf (hI hw) ht2.rf3) (Nat.succ_ne_zero _) ?_
  refine px_iload_n dX5_readPerson_96 rfl rfl ?_
  refine px_aload_n dX5_readPerson_97 rfl rfl ?_
  refine px_getR (v := 17) dX5_readPerson_98 fr_5_12 rfl (px_sh1 (hI hw) sh_16) (px_rf (hI hw) rf_16_0) (by decide) ?_
  refine px_iconst dX5_readPerson_101 ic_3 ?_
  refine px_forget (ls' := [.ref 16, .null]) ?_ ⟨Or.inr rfl, Or.inl rfl, trivial⟩
  refine px_callV (As := [.int 3]) (st := [.int x1, .ref (t.2.1 + 3)]) (rc := 0) (rs := 0) (mc := 0) (ms := 0) dX5_readPerson_102 lk_5_107 (px_sh1 (hI hw) sh_17) rfl rfl (Nat.le_of_ble_eq_true rfl) (sX6_isKeyword (w := (pw_sI w (t.2.1 + 2) j1 y2)) (hI hw) ?_)
  show px_W E mX5_readPerson (d + 2) 0 0 105 [.ref 16, .null] [.int (jb (pX6_isKeyword (pw_sI w (t.2.1 + 2) j1 y2) 3)), .int x1, .ref (t.2.1 + 3)] (pw_sI w (t.2.1 + 2) j1 y2) Q
  refine px_jb_eq (tgt := 119) dX5_readPerson_105 (by decide) (fun h1 => ?_) (fun h1 => ?_)
  ·
    refine px_iconst dX5_readPerson_119 ic_0 ?_
    exact (k1 h1)
  ·
    refine px_aload_n dX5_readPerson_108 rfl rfl ?_
    refine px_iconst dX5_readPerson_109 ic_3 ?_
    refine px_iconst dX5_readPerson_110 ic_0 ?_
    refine px_bipush dX5_readPerson_111 bp_99 ?_
    exact px_callV (As := [.int 3, .int 0, .int 99]) (st := [.int x1, .ref (t.2.1 + 3)]) (rc := 0) (rs := 0) (mc := 0) (ms := 0) dX5_readPerson_113 lk_5_101 (px_sh1 (hI hw) sh_16) rfl rfl (Nat.le_of_ble_eq_true rfl) (k2 h1)
theorem bX5_readPerson_116 {E : px_E} {d : Nat} {w : pw_W} {Q : Option Value → pw_W → Prop} {t : ct_T} (hw : w.1 = cs t) {y1 y2 : Int32} (ht2 : is_Hamlet t.2.1) 
    (k1 : px_W E mX5_readPerson (d + 2) 0 0 120 [.ref 16, .null] [.int y2, .int y1, .ref (t.2.1 + 3)] w Q) :
    px_W E mX5_readPerson (d + 2) 0 0 116 [.ref 16, .null] [.int y2, .int y1, .ref (t.2.1 + 3)] w Q := by
  refine px_goto (tgt := 120) dX5_readPerson_116 (by decide) ?_
  exact k1
theorem bX5_readPerson_120 {E : px_E} {d : Nat} {w : pw_W} {Q : Option Value → pw_W → Prop} {t : ct_T} (hw : w.1 = cs t) {y1 y2 : Int32} (ht2 : is_Hamlet t.2.1) (j1 : Nat) (hj1 : y1 = nI j1) (hl1 : j1 < 6)
    (k1 : px_W E mX5_readPerson (d + 2) 0 0 134 [.ref 16, .null] [] (pw_sI (pw_sI w (t.2.1 + 3) j1 y2) t.2.1 0 ((pw_I (pw_sI w (t.2.1 + 3) j1 y2) t.2.1 0) + 1)) Q) :
    px_W E mX5_readPerson (d + 2) 0 0 120 [.ref 16, .null] [.int y2, .int y1, .ref (t.2.1 + 3)] w Q := by
  refine px_iast dX5_readPerson_120 (px_sh2 hw ht2.sh3) (by decide) j1 hj1 hl1 (by omega) ?_
  refine px_aload_n dX5_readPerson_121 rfl rfl ?_
  refine px_getR (v := t.2.1) dX5_readPerson_122 fr_5_28 rfl (px_sh1 (hI hw) sh_16) (px_rf (hI hw) rf_16_3) ht2.ne ?_
  refine px_dup dX5_readPerson_125 rfl ?_
  refine px_getI dX5_readPerson_126 fr_5_87 rfl (px_sh1 (hI hw) ht2.sh) ?_
  refine px_iconst dX5_readPerson_129 ic_1 ?_
  refine px_iadd dX5_readPerson_130 ?_
  refine px_putI dX5_readPerson_131 fl_5_87 (Or.inl rfl) rfl (px_sh1 (hI hw) ht2.sh) rfl rfl (by omega) ?_
  exact k1
theorem bX5_readPerson_134 {E : px_E} {d : Nat} {w : pw_W} {Q : Option Value → pw_W → Prop} {t : ct_T} (hw : w.1 = cs t) (ht2 : is_Hamlet t.2.1) 
    (k1 : px_Call E (d + 1) 0 0 mX5_readLineEnd [.ref 16] w (fun v w' => px_W E mX5_readPerson (d + 2) 0 0 138 [.null, .null] (v.toList ++ []) w' Q)) :
    px_W E mX5_readPerson (d + 2) 0 0 134 [.ref 16, .null] [] w Q := by
  refine px_aload_n dX5_readPerson_134 rfl rfl ?_
  refine px_forget (ls' := [.null, .null]) ?_ ⟨Or.inl rfl, Or.inl rfl, trivial⟩
  exact px_callV (As := []) (st := []) (rc := 0) (rs := 0) (mc := 0) (ms := 0) dX5_readPerson_135 lk_5_114 (px_sh1 hw sh_16) rfl rfl (Nat.le_of_ble_eq_true rfl) k1
theorem bX5_readPerson_138 {E : px_E} {d : Nat} {w : pw_W} {Q : Option Value → pw_W → Prop} {t : ct_T} (hw : w.1 = cs t) {y0 : Int32} (ht2 : is_Hamlet t.2.1) (hb1 : y0 = 0 ∨ y0 = 1)
    (k1 : Q (some (.int y0)) w) :
    px_W E mX5_readPerson (d + 2) 0 0 138 [.null, .null] [.int y0] w Q := by
  exact px_ireturn dX5_readPerson_138 rfl (px_nb (hb1)) k1
theorem dX5_readMeeting_0 : decode mX5_readMeeting.2.1 0 = .ok (.aload_n 0, 1) := by decide +kernel
theorem dX5_readMeeting_1 : decode mX5_readMeeting.2.1 1 = .ok (.getfield 28, 3) := by decide +kernel
theorem dX5_readMeeting_4 : decode mX5_readMeeting.2.1 4 = .ok (.getfield 117, 3) := by decide +kernel
theorem dX5_readMeeting_7 : decode mX5_readMeeting.2.1 7 = .ok (.istore_n 1, 1) := by decide +kernel
theorem dX5_readMeeting_8 : decode mX5_readMeeting.2.1 8 = .ok (.iload_n 1, 1) := by decide +kernel
theorem dX5_readMeeting_9 : decode mX5_readMeeting.2.1 9 = .ok (.bipush 9, 2) := by decide +kernel
theorem dX5_readMeeting_11 : decode mX5_readMeeting.2.1 11 = .ok (.if_icmp .lt 8, 3) := by decide +kernel
theorem dX5_readMeeting_14 : decode mX5_readMeeting.2.1 14 = .ok (.aload_n 0, 1) := by decide +kernel
theorem dX5_readMeeting_15 : decode mX5_readMeeting.2.1 15 = .ok (.invokevirtual 56, 3) := by decide +kernel
theorem dX5_readMeeting_18 : decode mX5_readMeeting.2.1 18 = .ok (.ireturn, 1) := by decide +kernel
theorem dX5_readMeeting_19 : decode mX5_readMeeting.2.1 19 = .ok (.aload_n 0, 1) := by decide +kernel
theorem dX5_readMeeting_20 : decode mX5_readMeeting.2.1 20 = .ok (.getfield 12, 3) := by decide +kernel
theorem dX5_readMeeting_23 : decode mX5_readMeeting.2.1 23 = .ok (.invokevirtual 90, 3) := by decide +kernel
theorem dX5_readMeeting_26 : decode mX5_readMeeting.2.1 26 = .ok (.aload_n 0, 1) := by decide +kernel
theorem dX5_readMeeting_27 : decode mX5_readMeeting.2.1 27 = .ok (.iconst 0, 1) := by decide +kernel
theorem dX5_readMeeting_28 : decode mX5_readMeeting.2.1 28 = .ok (.invokevirtual 120, 3) := by decide +kernel
theorem dX5_readMeeting_31 : decode mX5_readMeeting.2.1 31 = .ok (.istore_n 2, 1) := by decide +kernel
theorem dX5_readMeeting_32 : decode mX5_readMeeting.2.1 32 = .ok (.iload_n 2, 1) := by decide +kernel
theorem dX5_readMeeting_33 : decode mX5_readMeeting.2.1 33 = .ok (.iconst (-1), 1) := by decide +kernel
theorem dX5_readMeeting_34 : decode mX5_readMeeting.2.1 34 = .ok (.if_icmp .ne 5, 3) := by decide +kernel
theorem dX5_readMeeting_37 : decode mX5_readMeeting.2.1 37 = .ok (.iconst 0, 1) := by decide +kernel
theorem dX5_readMeeting_38 : decode mX5_readMeeting.2.1 38 = .ok (.ireturn, 1) := by decide +kernel
theorem dX5_readMeeting_39 : decode mX5_readMeeting.2.1 39 = .ok (.aload_n 0, 1) := by decide +kernel
theorem dX5_readMeeting_40 : decode mX5_readMeeting.2.1 40 = .ok (.iconst 1, 1) := by decide +kernel
theorem dX5_readMeeting_41 : decode mX5_readMeeting.2.1 41 = .ok (.iload_n 2, 1) := by decide +kernel
theorem dX5_readMeeting_42 : decode mX5_readMeeting.2.1 42 = .ok (.ishl, 1) := by decide +kernel
theorem dX5_readMeeting_43 : decode mX5_readMeeting.2.1 43 = .ok (.invokevirtual 120, 3) := by decide +kernel
theorem dX5_readMeeting_46 : decode mX5_readMeeting.2.1 46 = .ok (.istore_n 3, 1) := by decide +kernel
theorem dX5_readMeeting_47 : decode mX5_readMeeting.2.1 47 = .ok (.iload_n 3, 1) := by decide +kernel
theorem dX5_readMeeting_48 : decode mX5_readMeeting.2.1 48 = .ok (.iconst (-1), 1) := by decide +kernel
theorem dX5_readMeeting_49 : decode mX5_readMeeting.2.1 49 = .ok (.if_icmp .ne 5, 3) := by decide +kernel
theorem dX5_readMeeting_52 : decode mX5_readMeeting.2.1 52 = .ok (.iconst 0, 1) := by decide +kernel
theorem dX5_readMeeting_53 : decode mX5_readMeeting.2.1 53 = .ok (.ireturn, 1) := by decide +kernel
theorem dX5_readMeeting_54 : decode mX5_readMeeting.2.1 54 = .ok (.aload_n 0, 1) := by decide +kernel
theorem dX5_readMeeting_55 : decode mX5_readMeeting.2.1 55 = .ok (.getfield 28, 3) := by decide +kernel
theorem dX5_readMeeting_58 : decode mX5_readMeeting.2.1 58 = .ok (.getfield 124, 3) := by decide +kernel
theorem dX5_readMeeting_61 : decode mX5_readMeeting.2.1 61 = .ok (.iload_n 1, 1) := by decide +kernel
theorem dX5_readMeeting_62 : decode mX5_readMeeting.2.1 62 = .ok (.iload_n 2, 1) := by decide +kernel
theorem dX5_readMeeting_63 : decode mX5_readMeeting.2.1 63 = .ok (.iastore, 1) := by decide +kernel
theorem dX5_readMeeting_64 : decode mX5_readMeeting.2.1 64 = .ok (.aload_n 0, 1) := by decide +kernel
theorem dX5_readMeeting_65 : decode mX5_readMeeting.2.1 65 = .ok (.getfield 28, 3) := by decide +kernel
theorem dX5_readMeeting_68 : decode mX5_readMeeting.2.1 68 = .ok (.getfield 127, 3) := by decide +kernel
theorem dX5_readMeeting_71 : decode mX5_readMeeting.2.1 71 = .ok (.iload_n 1, 1) := by decide +kernel
theorem dX5_readMeeting_72 : decode mX5_readMeeting.2.1 72 = .ok (.iload_n 3, 1) := by decide +kernel
theorem dX5_readMeeting_73 : decode mX5_readMeeting.2.1 73 = .ok (.iastore, 1) := by decide +kernel
theorem dX5_readMeeting_74 : decode mX5_readMeeting.2.1 74 = .ok (.aload_n 0, 1) := by decide +kernel
theorem dX5_readMeeting_75 : decode mX5_readMeeting.2.1 75 = .ok (.getfield 28, 3) := by decide +kernel
theorem dX5_readMeeting_78 : decode mX5_readMeeting.2.1 78 = .ok (.getfield 130, 3) := by decide +kernel
theorem dX5_readMeeting_81 : decode mX5_readMeeting.2.1 81 = .ok (.iload_n 1, 1) := by decide +kernel
theorem dX5_readMeeting_82 : decode mX5_readMeeting.2.1 82 = .ok (.aload_n 0, 1) := by decide +kernel
theorem dX5_readMeeting_83 : decode mX5_readMeeting.2.1 83 = .ok (.iconst 5, 1) := by decide +kernel
theorem dX5_readMeeting_84 : decode mX5_readMeeting.2.1 84 = .ok (.iconst 0, 1) := by decide +kernel
theorem dX5_readMeeting_85 : decode mX5_readMeeting.2.1 85 = .ok (.bipush 6, 2) := by decide +kernel
theorem dX5_readMeeting_87 : decode mX5_readMeeting.2.1 87 = .ok (.invokevirtual 101, 3) := by decide +kernel
theorem dX5_readMeeting_90 : decode mX5_readMeeting.2.1 90 = .ok (.iastore, 1) := by decide +kernel
theorem dX5_readMeeting_91 : decode mX5_readMeeting.2.1 91 = .ok (.aload_n 0, 1) := by decide +kernel
theorem dX5_readMeeting_92 : decode mX5_readMeeting.2.1 92 = .ok (.getfield 28, 3) := by decide +kernel
theorem dX5_readMeeting_95 : decode mX5_readMeeting.2.1 95 = .ok (.dup, 1) := by decide +kernel
theorem dX5_readMeeting_96 : decode mX5_readMeeting.2.1 96 = .ok (.getfield 117, 3) := by decide +kernel
theorem dX5_readMeeting_99 : decode mX5_readMeeting.2.1 99 = .ok (.iconst 1, 1) := by decide +kernel
theorem dX5_readMeeting_100 : decode mX5_readMeeting.2.1 100 = .ok (.iadd, 1) := by decide +kernel
theorem dX5_readMeeting_101 : decode mX5_readMeeting.2.1 101 = .ok (.putfield 117, 3) := by decide +kernel
theorem dX5_readMeeting_104 : decode mX5_readMeeting.2.1 104 = .ok (.aload_n 0, 1) := by decide +kernel
theorem dX5_readMeeting_105 : decode mX5_readMeeting.2.1 105 = .ok (.invokevirtual 114, 3) := by decide +kernel
theorem dX5_readMeeting_108 : decode mX5_readMeeting.2.1 108 = .ok (.ireturn, 1) := by decide +kernel
theorem bX5_readMeeting_0 {E : px_E} {d : Nat} {w : pw_W} {Q : Option Value → pw_W → Prop} {t : ct_T} (hw : w.1 = cs t) (ht2 : is_Hamlet t.2.1) 
    (k1 : (pw_I w t.2.1 4) < 9 → px_Call E d 0 0 mX6_advance [.ref 17] w (fun v w' => px_W E mX5_readMeeting (d + 1) 0 0 26 [.ref 16, .int (pw_I w t.2.1 4), .null, .null] (v.toList ++ []) w' Q))
    (k2 : ¬ (pw_I w t.2.1 4) < 9 → px_Call E d 0 0 mX5_refuse [.ref 16] w (fun v w' => px_W E mX5_readMeeting (d + 1) 0 0 18 [.null, .null, .null, .null] (v.toList ++ []) w' Q)) :
    px_W E mX5_readMeeting (d + 1) 0 0 0 [.ref 16, .null, .null, .null] [] w Q := by
  refine px_aload_n dX5_readMeeting_0 rfl rfl ?_
  refine px_getR (v := t.2.1) dX5_readMeeting_1 fr_5_28 rfl (px_sh1 hw sh_16) (px_rf hw rf_16_3) ht2.ne ?_
  refine px_getI dX5_readMeeting_4 fr_5_117 rfl (px_sh1 hw ht2.sh) ?_
  refine px_istore_n (ls' := [.ref 16, .int (pw_I w t.2.1 4), .null, .null]) dX5_readMeeting_7 rfl ⟨by decide, rfl⟩ rfl ?_
  refine px_iload_n dX5_readMeeting_8 rfl rfl ?_
  refine px_bipush dX5_readMeeting_9 bp_9 ?_
  refine px_icmp_lt (tgt := 19) dX5_readMeeting_11 (by decide) (fun h1 => ?_) (fun h1 => ?_)
  ·
    refine px_aload_n dX5_readMeeting_19 rfl rfl ?_
    refine px_getR (v := 17) dX5_readMeeting_20 fr_5_12 rfl (px_sh1 hw sh_16) (px_rf hw rf_16_0) (by decide) ?_
    exact px_callV (As := []) (st := []) (rc := 0) (rs := 0) (mc := 0) (ms := 0) dX5_readMeeting_23 lk_5_90 (px_sh1 hw sh_17) rfl rfl (Nat.le_of_ble_eq_true rfl) (k1 h1)
  ·
    refine px_aload_n dX5_readMeeting_14 rfl rfl ?_
    refine px_forget (ls' := [.null, .null, .null, .null]) ?_ ⟨Or.inl rfl, Or.inl rfl, Or.inl rfl, Or.inl rfl, trivial⟩
    exact px_callV (As := []) (st := []) (rc := 0) (rs := 0) (mc := 0) (ms := 0) dX5_readMeeting_15 lk_5_56 (px_sh1 hw sh_16) rfl rfl (Nat.le_of_ble_eq_true rfl) (k2 h1)
theorem eX5_readMeeting {E : px_E} {d : Nat} {w : pw_W} {Q : Option Value → pw_W → Prop} {t : ct_T} (hw : w.1 = cs t) (ht2 : is_Hamlet t.2.1) 
    (k1 : (pw_I w t.2.1 4) < 9 → px_Call E d 0 0 mX6_advance [.ref 17] w (fun v w' => px_W E mX5_readMeeting (d + 1) 0 0 26 [.ref 16, .int (pw_I w t.2.1 4), .null, .null] (v.toList ++ []) w' Q))
    (k2 : ¬ (pw_I w t.2.1 4) < 9 → px_Call E d 0 0 mX5_refuse [.ref 16] w (fun v w' => px_W E mX5_readMeeting (d + 1) 0 0 18 [.null, .null, .null, .null] (v.toList ++ []) w' Q)) :
    px_Call E (d + 1) 0 0 mX5_readMeeting [.ref 16] w Q :=
  px_enter (k := 3) (by decide) (Nat.le_of_ble_eq_true rfl) rfl (px_forget (bX5_readMeeting_0 hw ht2 k1 k2) ⟨Or.inr rfl, Or.inl rfl, Or.inl rfl, Or.inl rfl, trivial⟩)
theorem bX5_readMeeting_18 {E : px_E} {d : Nat} {w : pw_W} {Q : Option Value → pw_W → Prop} {t : ct_T} (hw : w.1 = cs t) {y0 : Int32} (ht2 : is_Hamlet t.2.1) (hb1 : y0 = 0 ∨ y0 = 1)
    (k1 : Q (some (.int y0)) w) :
    px_W E mX5_readMeeting (d + 1) 0 0 18 [.null, .null, .null, .null] [.int y0] w Q := by
  exact px_ireturn dX5_readMeeting_18 rfl (px_nb (hb1)) k1
theorem bX5_readMeeting_26 {E : px_E} {d : Nat} {w : pw_W} {Q : Option Value → pw_W → Prop} {t : ct_T} (hw : w.1 = cs t) {x1 : Int32} (ht2 : is_Hamlet t.2.1) 
    (k1 : px_Call E d 0 0 mX5_readPersonNotIn [.ref 16, .int 0] w (fun v w' => px_W E mX5_readMeeting (d + 1) 0 0 31 [.ref 16, .int x1, .null, .null] (v.toList ++ []) w' Q)) :
    px_W E mX5_readMeeting (d + 1) 0 0 26 [.ref 16, .int x1, .null, .null] [] w Q := by
  refine px_aload_n dX5_readMeeting_26 rfl rfl ?_
  refine px_iconst dX5_readMeeting_27 ic_0 ?_
  exact px_callV (As := [.int 0]) (st := []) (rc := 0) (rs := 0) (mc := 0) (ms := 0) dX5_readMeeting_28 lk_5_120 (px_sh1 hw sh_16) rfl rfl (Nat.le_of_ble_eq_true rfl) k1
theorem bX5_readMeeting_31 {E : px_E} {d : Nat} {w : pw_W} {Q : Option Value → pw_W → Prop} {t : ct_T} (hw : w.1 = cs t) {x1 y0 : Int32} (ht2 : is_Hamlet t.2.1) 
    (k1 : ¬ y0 = (-1) → px_Call E d 0 0 mX5_readPersonNotIn [.ref 16, .int (js_shl 1 y0)] w (fun v w' => px_W E mX5_readMeeting (d + 1) 0 0 46 [.ref 16, .int x1, .int y0, .null] (v.toList ++ []) w' Q))
    (k2 : y0 = (-1) → Q (some (.int 0)) w) :
    px_W E mX5_readMeeting (d + 1) 0 0 31 [.ref 16, .int x1, .null, .null] [.int y0] w Q := by
  refine px_istore_n (ls' := [.ref 16, .int x1, .int y0, .null]) dX5_readMeeting_31 rfl ⟨by decide, rfl⟩ rfl ?_
  refine px_iload_n dX5_readMeeting_32 rfl rfl ?_
  refine px_iconst dX5_readMeeting_33 ic_m1 ?_
  refine px_icmp_ne (tgt := 39) dX5_readMeeting_34 (by decide) (fun h1 => ?_) (fun h1 => ?_)
  ·
    refine px_aload_n dX5_readMeeting_39 rfl rfl ?_
    refine px_iconst dX5_readMeeting_40 ic_1 ?_
    refine px_iload_n dX5_readMeeting_41 rfl rfl ?_
    refine px_ishl dX5_readMeeting_42 ?_
    exact px_callV (As := [.int (js_shl 1 y0)]) (st := []) (rc := 0) (rs := 0) (mc := 0) (ms := 0) dX5_readMeeting_43 lk_5_120 (px_sh1 hw sh_16) rfl rfl (Nat.le_of_ble_eq_true rfl) (k1 h1)
  ·
    refine px_iconst dX5_readMeeting_37 ic_0 ?_
    exact px_ireturn dX5_readMeeting_38 rfl (by decide) (k2 h1)
theorem bX5_readMeeting_46 {E : px_E} {d : Nat} {w : pw_W} {Q : Option Value → pw_W → Prop} {t : ct_T} (hw : w.1 = cs t) {x1 x2 y0 : Int32} (ht2 : is_Hamlet t.2.1) 
    (k1 : ¬ y0 = (-1) → px_W E mX5_readMeeting (d + 1) 0 0 54 [.ref 16, .int x1, .int x2, .int y0] [] w Q)
    (k2 : y0 = (-1) → Q (some (.int 0)) w) :
    px_W E mX5_readMeeting (d + 1) 0 0 46 [.ref 16, .int x1, .int x2, .null] [.int y0] w Q := by
  refine px_istore_n (ls' := [.ref 16, .int x1, .int x2, .int y0]) dX5_readMeeting_46 rfl ⟨by decide, rfl⟩ rfl ?_
  refine px_iload_n dX5_readMeeting_47 rfl rfl ?_
  refine px_iconst dX5_readMeeting_48 ic_m1 ?_
  refine px_icmp_ne (tgt := 54) dX5_readMeeting_49 (by decide) (fun h1 => ?_) (fun h1 => ?_)
  ·
    exact (k1 h1)
  ·
    refine px_iconst dX5_readMeeting_52 ic_0 ?_
    exact px_ireturn dX5_readMeeting_53 rfl (by decide) (k2 h1)
theorem bX5_readMeeting_54 {E : px_E} {d : Nat} {w : pw_W} {Q : Option Value → pw_W → Prop} {t : ct_T} (hw : w.1 = cs t) {x1 x2 x3 : Int32} (ht2 : is_Hamlet t.2.1) (j1 : Nat) (hj1 : x1 = nI j1) (hl1 : j1 < 9)
    (k1 : px_W E mX5_readMeeting (d + 1) 0 0 74 [.ref 16, .int x1, .null, .null] [] (pw_sI (pw_sI w (t.2.1 + 4) j1 x2) (t.2.1 + 5) j1 x3) Q) :
    px_W E mX5_readMeeting (d + 1) 0 0 54 [.ref 16, .int x1, .int x2, .int x3] [] w Q := by
  refine px_aload_n dX5_readMeeting_54 rfl rfl ?_
  refine px_getR (v := t.2.1) dX5_readMeeting_55 fr_5_28 rfl (px_sh1 hw sh_16) (px_rf hw rf_16_3) ht2.ne ?_
  refine px_getR (v := (t.2.1 + 4)) dX5_readMeeting_58 fr_5_124 rfl (px_sh1 hw ht2.sh) (px_rf hw ht2.rf5) (Nat.succ_ne_zero _) ?_
  refine px_iload_n dX5_readMeeting_61 rfl rfl ?_
  refine px_iload_n dX5_readMeeting_62 rfl rfl ?_
  refine px_iast dX5_readMeeting_63 (px_sh2 hw ht2.sh4) (by decide) j1 hj1 hl1 (by omega) ?_
  refine px_aload_n dX5_readMeeting_64 rfl rfl ?_
  refine px_getR (v := t.2.1) dX5_readMeeting_65 fr_5_28 rfl (px_sh1 (hI hw) sh_16) (px_rf (hI hw) rf_16_3) ht2.ne ?_
  refine px_getR (v := (t.2.1 + 5)) dX5_readMeeting_68 fr_5_127 rfl (px_sh1 (hI hw) ht2.sh) (px_rf (hI hw) ht2.rf6) (Nat.succ_ne_zero _) ?_
  refine px_iload_n dX5_readMeeting_71 rfl rfl ?_
  refine px_iload_n dX5_readMeeting_72 rfl rfl ?_
  refine px_iast dX5_readMeeting_73 (px_sh2 (hI hw) ht2.sh5) (by decide) j1 hj1 hl1 (by omega) ?_
  exact px_forget k1 ⟨Or.inr rfl, Or.inr rfl, Or.inl rfl, Or.inl rfl, trivial⟩
theorem bX5_readMeeting_74 {E : px_E} {d : Nat} {w : pw_W} {Q : Option Value → pw_W → Prop} {t : ct_T} (hw : w.1 = cs t) {x1 : Int32} (ht2 : is_Hamlet t.2.1) 
    (k1 : px_Call E d 0 0 mX5_readNumberBehind [.ref 16, .int 5, .int 0, .int 6] w (fun v w' => px_W E mX5_readMeeting (d + 1) 0 0 90 [.ref 16, .null, .null, .null] (v.toList ++ [.int x1, .ref (t.2.1 + 6)]) w' Q)) :
    px_W E mX5_readMeeting (d + 1) 0 0 74 [.ref 16, .int x1, .null, .null] [] w Q := by
  refine px_aload_n dX5_readMeeting_74 rfl rfl ?_
  refine px_getR (v := t.2.1) dX5_readMeeting_75 fr_5_28 rfl (px_sh1 hw sh_16) (px_rf hw rf_16_3) ht2.ne ?_
  refine px_getR (v := (t.2.1 + 6)) dX5_readMeeting_78 fr_5_130 rfl (px_sh1 hw ht2.sh) (px_rf hw ht2.rf7) (Nat.succ_ne_zero _) ?_
  refine px_iload_n dX5_readMeeting_81 rfl rfl ?_
  refine px_aload_n dX5_readMeeting_82 rfl rfl ?_
  refine px_iconst dX5_readMeeting_83 ic_5 ?_
  refine px_iconst dX5_readMeeting_84 ic_0 ?_
  refine px_bipush dX5_readMeeting_85 bp_6 ?_
  refine px_forget (ls' := [.ref 16, .null, .null, .null]) ?_ ⟨Or.inr rfl, Or.inl rfl, Or.inl rfl, Or.inl rfl, trivial⟩
  exact px_callV (As := [.int 5, .int 0, .int 6]) (st := [.int x1, .ref (t.2.1 + 6)]) (rc := 0) (rs := 0) (mc := 0) (ms := 0) dX5_readMeeting_87 lk_5_101 (px_sh1 hw sh_16) rfl rfl (Nat.le_of_ble_eq_true rfl) k1
theorem bX5_readMeeting_90 {E : px_E} {d : Nat} {w : pw_W} {Q : Option Value → pw_W → Prop} {t : ct_T} (hw : w.1 = cs t) {y1 y2 : Int32} (ht2 : is_Hamlet t.2.1) (j1 : Nat) (hj1 : y1 = nI j1) (hl1 : j1 < 9)
    (k1 : px_W E mX5_readMeeting (d + 1) 0 0 104 [.ref 16, .null, .null, .null] [] (pw_sI (pw_sI w (t.2.1 + 6) j1 y2) t.2.1 4 ((pw_I (pw_sI w (t.2.1 + 6) j1 y2) t.2.1 4) + 1)) Q) :
    px_W E mX5_readMeeting (d + 1) 0 0 90 [.ref 16, .null, .null, .null] [.int y2, .int y1, .ref (t.2.1 + 6)] w Q := by
  refine px_iast dX5_readMeeting_90 (px_sh2 hw ht2.sh6) (by decide) j1 hj1 hl1 (by omega) ?_
  refine px_aload_n dX5_readMeeting_91 rfl rfl ?_
  refine px_getR (v := t.2.1) dX5_readMeeting_92 fr_5_28 rfl (px_sh1 (hI hw) sh_16) (px_rf (hI hw) rf_16_3) ht2.ne ?_
  refine px_dup dX5_readMeeting_95 rfl ?_
  refine px_getI dX5_readMeeting_96 fr_5_117 rfl (px_sh1 (hI hw) ht2.sh) ?_
  refine px_iconst dX5_readMeeting_99 ic_1 ?_
  refine px_iadd dX5_readMeeting_100 ?_
  refine px_putI dX5_readMeeting_101 fl_5_117 (Or.inl rfl) rfl (px_sh1 (hI hw) ht2.sh) rfl rfl (by omega) ?_
  exact k1
theorem bX5_readMeeting_104 {E : px_E} {d : Nat} {w : pw_W} {Q : Option Value → pw_W → Prop} {t : ct_T} (hw : w.1 = cs t) (ht2 : is_Hamlet t.2.1) 
    (k1 : px_Call E d 0 0 mX5_readLineEnd [.ref 16] w (fun v w' => px_W E mX5_readMeeting (d + 1) 0 0 108 [.null, .null, .null, .null] (v.toList ++ []) w' Q)) :
    px_W E mX5_readMeeting (d + 1) 0 0 104 [.ref 16, .null, .null, .null] [] w Q := by
  refine px_aload_n dX5_readMeeting_104 rfl rfl ?_
  refine px_forget (ls' := [.null, .null, .null, .null]) ?_ ⟨Or.inl rfl, Or.inl rfl, Or.inl rfl, Or.inl rfl, trivial⟩
  exact px_callV (As := []) (st := []) (rc := 0) (rs := 0) (mc := 0) (ms := 0) dX5_readMeeting_105 lk_5_114 (px_sh1 hw sh_16) rfl rfl (Nat.le_of_ble_eq_true rfl) k1
theorem bX5_readMeeting_108 {E : px_E} {d : Nat} {w : pw_W} {Q : Option Value → pw_W → Prop} {t : ct_T} (hw : w.1 = cs t) {y0 : Int32} (ht2 : is_Hamlet t.2.1) (hb1 : y0 = 0 ∨ y0 = 1)
    (k1 : Q (some (.int y0)) w) :
    px_W E mX5_readMeeting (d + 1) 0 0 108 [.null, .null, .null, .null] [.int y0] w Q := by
  exact px_ireturn dX5_readMeeting_108 rfl (px_nb (hb1)) k1
theorem dX5_readBrother_0 : decode mX5_readBrother.2.1 0 = .ok (.aload_n 0, 1) := by decide +kernel
theorem dX5_readBrother_1 : decode mX5_readBrother.2.1 1 = .ok (.getfield 28, 3) := by decide +kernel
theorem dX5_readBrother_4 : decode mX5_readBrother.2.1 4 = .ok (.getfield 133, 3) := by decide +kernel
theorem dX5_readBrother_7 : decode mX5_readBrother.2.1 7 = .ok (.istore_n 1, 1) := by decide +kernel
theorem dX5_readBrother_8 : decode mX5_readBrother.2.1 8 = .ok (.iload_n 1, 1) := by decide +kernel
theorem dX5_readBrother_9 : decode mX5_readBrother.2.1 9 = .ok (.iconst 2, 1) := by decide +kernel
theorem dX5_readBrother_10 : decode mX5_readBrother.2.1 10 = .ok (.if_icmp .lt 8, 3) := by decide +kernel
theorem dX5_readBrother_13 : decode mX5_readBrother.2.1 13 = .ok (.aload_n 0, 1) := by decide +kernel
theorem dX5_readBrother_14 : decode mX5_readBrother.2.1 14 = .ok (.invokevirtual 56, 3) := by decide +kernel
theorem dX5_readBrother_17 : decode mX5_readBrother.2.1 17 = .ok (.ireturn, 1) := by decide +kernel
theorem dX5_readBrother_18 : decode mX5_readBrother.2.1 18 = .ok (.aload_n 0, 1) := by decide +kernel
theorem dX5_readBrother_19 : decode mX5_readBrother.2.1 19 = .ok (.getfield 12, 3) := by decide +kernel
theorem dX5_readBrother_22 : decode mX5_readBrother.2.1 22 = .ok (.invokevirtual 90, 3) := by decide +kernel
theorem dX5_readBrother_25 : decode mX5_readBrother.2.1 25 = .ok (.aload_n 0, 1) := by decide +kernel
theorem dX5_readBrother_26 : decode mX5_readBrother.2.1 26 = .ok (.aload_n 0, 1) := by decide +kernel
theorem dX5_readBrother_27 : decode mX5_readBrother.2.1 27 = .ok (.getfield 22, 3) := by decide +kernel
theorem dX5_readBrother_30 : decode mX5_readBrother.2.1 30 = .ok (.iload_n 1, 1) := by decide +kernel
theorem dX5_readBrother_31 : decode mX5_readBrother.2.1 31 = .ok (.invokevirtual 93, 3) := by decide +kernel
theorem dX5_readBrother_34 : decode mX5_readBrother.2.1 34 = .ok (.ifCond .ne 5, 3) := by decide +kernel
theorem dX5_readBrother_37 : decode mX5_readBrother.2.1 37 = .ok (.iconst 0, 1) := by decide +kernel
theorem dX5_readBrother_38 : decode mX5_readBrother.2.1 38 = .ok (.ireturn, 1) := by decide +kernel
theorem dX5_readBrother_39 : decode mX5_readBrother.2.1 39 = .ok (.aload_n 0, 1) := by decide +kernel
theorem dX5_readBrother_40 : decode mX5_readBrother.2.1 40 = .ok (.getfield 28, 3) := by decide +kernel
theorem dX5_readBrother_43 : decode mX5_readBrother.2.1 43 = .ok (.getfield 136, 3) := by decide +kernel
theorem dX5_readBrother_46 : decode mX5_readBrother.2.1 46 = .ok (.iload_n 1, 1) := by decide +kernel
theorem dX5_readBrother_47 : decode mX5_readBrother.2.1 47 = .ok (.aload_n 0, 1) := by decide +kernel
theorem dX5_readBrother_48 : decode mX5_readBrother.2.1 48 = .ok (.bipush 7, 2) := by decide +kernel
theorem dX5_readBrother_50 : decode mX5_readBrother.2.1 50 = .ok (.iconst 1, 1) := by decide +kernel
theorem dX5_readBrother_51 : decode mX5_readBrother.2.1 51 = .ok (.bipush 20, 2) := by decide +kernel
theorem dX5_readBrother_53 : decode mX5_readBrother.2.1 53 = .ok (.invokevirtual 101, 3) := by decide +kernel
theorem dX5_readBrother_56 : decode mX5_readBrother.2.1 56 = .ok (.iastore, 1) := by decide +kernel
theorem dX5_readBrother_57 : decode mX5_readBrother.2.1 57 = .ok (.aload_n 0, 1) := by decide +kernel
theorem dX5_readBrother_58 : decode mX5_readBrother.2.1 58 = .ok (.getfield 28, 3) := by decide +kernel
theorem dX5_readBrother_61 : decode mX5_readBrother.2.1 61 = .ok (.dup, 1) := by decide +kernel
theorem dX5_readBrother_62 : decode mX5_readBrother.2.1 62 = .ok (.getfield 133, 3) := by decide +kernel
theorem dX5_readBrother_65 : decode mX5_readBrother.2.1 65 = .ok (.iconst 1, 1) := by decide +kernel
theorem dX5_readBrother_66 : decode mX5_readBrother.2.1 66 = .ok (.iadd, 1) := by decide +kernel
theorem dX5_readBrother_67 : decode mX5_readBrother.2.1 67 = .ok (.putfield 133, 3) := by decide +kernel
theorem dX5_readBrother_70 : decode mX5_readBrother.2.1 70 = .ok (.aload_n 0, 1) := by decide +kernel
theorem dX5_readBrother_71 : decode mX5_readBrother.2.1 71 = .ok (.bipush 8, 2) := by decide +kernel
theorem dX5_readBrother_73 : decode mX5_readBrother.2.1 73 = .ok (.invokevirtual 139, 3) := by decide +kernel
theorem dX5_readBrother_76 : decode mX5_readBrother.2.1 76 = .ok (.ifCond .eq 22, 3) := by decide +kernel
theorem dX5_readBrother_79 : decode mX5_readBrother.2.1 79 = .ok (.aload_n 0, 1) := by decide +kernel
theorem dX5_readBrother_80 : decode mX5_readBrother.2.1 80 = .ok (.iload_n 1, 1) := by decide +kernel
theorem dX5_readBrother_81 : decode mX5_readBrother.2.1 81 = .ok (.invokevirtual 142, 3) := by decide +kernel
theorem dX5_readBrother_84 : decode mX5_readBrother.2.1 84 = .ok (.ifCond .eq 14, 3) := by decide +kernel
theorem dX5_readBrother_87 : decode mX5_readBrother.2.1 87 = .ok (.aload_n 0, 1) := by decide +kernel
theorem dX5_readBrother_88 : decode mX5_readBrother.2.1 88 = .ok (.invokevirtual 114, 3) := by decide +kernel
theorem dX5_readBrother_91 : decode mX5_readBrother.2.1 91 = .ok (.ifCond .eq 7, 3) := by decide +kernel
theorem dX5_readBrother_94 : decode mX5_readBrother.2.1 94 = .ok (.iconst 1, 1) := by decide +kernel
theorem dX5_readBrother_95 : decode mX5_readBrother.2.1 95 = .ok (.goto 4, 3) := by decide +kernel
theorem dX5_readBrother_98 : decode mX5_readBrother.2.1 98 = .ok (.iconst 0, 1) := by decide +kernel
theorem dX5_readBrother_99 : decode mX5_readBrother.2.1 99 = .ok (.ireturn, 1) := by decide +kernel
theorem bX5_readBrother_0 {E : px_E} {d : Nat} {w : pw_W} {Q : Option Value → pw_W → Prop} {t : ct_T} (hw : w.1 = cs t) (ht2 : is_Hamlet t.2.1) 
    (k1 : (pw_I w t.2.1 8) < 2 → px_Call E d 0 0 mX6_advance [.ref 17] w (fun v w' => px_W E mX5_readBrother (d + 1) 0 0 25 [.ref 16, .int (pw_I w t.2.1 8)] (v.toList ++ []) w' Q))
    (k2 : ¬ (pw_I w t.2.1 8) < 2 → px_Call E d 0 0 mX5_refuse [.ref 16] w (fun v w' => px_W E mX5_readBrother (d + 1) 0 0 17 [.null, .null] (v.toList ++ []) w' Q)) :
    px_W E mX5_readBrother (d + 1) 0 0 0 [.ref 16, .null] [] w Q := by
  refine px_aload_n dX5_readBrother_0 rfl rfl ?_
  refine px_getR (v := t.2.1) dX5_readBrother_1 fr_5_28 rfl (px_sh1 hw sh_16) (px_rf hw rf_16_3) ht2.ne ?_
  refine px_getI dX5_readBrother_4 fr_5_133 rfl (px_sh1 hw ht2.sh) ?_
  refine px_istore_n (ls' := [.ref 16, .int (pw_I w t.2.1 8)]) dX5_readBrother_7 rfl ⟨by decide, rfl⟩ rfl ?_
  refine px_iload_n dX5_readBrother_8 rfl rfl ?_
  refine px_iconst dX5_readBrother_9 ic_2 ?_
  refine px_icmp_lt (tgt := 18) dX5_readBrother_10 (by decide) (fun h1 => ?_) (fun h1 => ?_)
  ·
    refine px_aload_n dX5_readBrother_18 rfl rfl ?_
    refine px_getR (v := 17) dX5_readBrother_19 fr_5_12 rfl (px_sh1 hw sh_16) (px_rf hw rf_16_0) (by decide) ?_
    exact px_callV (As := []) (st := []) (rc := 0) (rs := 0) (mc := 0) (ms := 0) dX5_readBrother_22 lk_5_90 (px_sh1 hw sh_17) rfl rfl (Nat.le_of_ble_eq_true rfl) (k1 h1)
  ·
    refine px_aload_n dX5_readBrother_13 rfl rfl ?_
    refine px_forget (ls' := [.null, .null]) ?_ ⟨Or.inl rfl, Or.inl rfl, trivial⟩
    exact px_callV (As := []) (st := []) (rc := 0) (rs := 0) (mc := 0) (ms := 0) dX5_readBrother_14 lk_5_56 (px_sh1 hw sh_16) rfl rfl (Nat.le_of_ble_eq_true rfl) (k2 h1)
theorem eX5_readBrother {E : px_E} {d : Nat} {w : pw_W} {Q : Option Value → pw_W → Prop} {t : ct_T} (hw : w.1 = cs t) (ht2 : is_Hamlet t.2.1) 
    (k1 : (pw_I w t.2.1 8) < 2 → px_Call E d 0 0 mX6_advance [.ref 17] w (fun v w' => px_W E mX5_readBrother (d + 1) 0 0 25 [.ref 16, .int (pw_I w t.2.1 8)] (v.toList ++ []) w' Q))
    (k2 : ¬ (pw_I w t.2.1 8) < 2 → px_Call E d 0 0 mX5_refuse [.ref 16] w (fun v w' => px_W E mX5_readBrother (d + 1) 0 0 17 [.null, .null] (v.toList ++ []) w' Q)) :
    px_Call E (d + 1) 0 0 mX5_readBrother [.ref 16] w Q :=
  px_enter (k := 1) (by decide) (Nat.le_of_ble_eq_true rfl) rfl (px_forget (bX5_readBrother_0 hw ht2 k1 k2) ⟨Or.inr rfl, Or.inl rfl, trivial⟩)
theorem bX5_readBrother_17 {E : px_E} {d : Nat} {w : pw_W} {Q : Option Value → pw_W → Prop} {t : ct_T} (hw : w.1 = cs t) {y0 : Int32} (ht2 : is_Hamlet t.2.1) (hb1 : y0 = 0 ∨ y0 = 1)
    (k1 : Q (some (.int y0)) w) :
    px_W E mX5_readBrother (d + 1) 0 0 17 [.null, .null] [.int y0] w Q := by
  exact px_ireturn dX5_readBrother_17 rfl (px_nb (hb1)) k1
theorem bX5_readBrother_25 {E : px_E} {d : Nat} {w : pw_W} {Q : Option Value → pw_W → Prop} {t : ct_T} (hw : w.1 = cs t) {x1 : Int32} (ht2 : is_Hamlet t.2.1) 
    (k1 : px_Call E d 0 0 mX5_readNewName [.ref 16, .ref 21, .int x1] w (fun v w' => px_W E mX5_readBrother (d + 1) 0 0 34 [.ref 16, .int x1] (v.toList ++ []) w' Q)) :
    px_W E mX5_readBrother (d + 1) 0 0 25 [.ref 16, .int x1] [] w Q := by
  refine px_aload_n dX5_readBrother_25 rfl rfl ?_
  refine px_aload_n dX5_readBrother_26 rfl rfl ?_
  refine px_getR (v := 21) dX5_readBrother_27 fr_5_22 rfl (px_sh1 hw sh_16) (px_rf hw rf_16_2) (by decide) ?_
  refine px_iload_n dX5_readBrother_30 rfl rfl ?_
  exact px_callV (As := [.ref 21, .int x1]) (st := []) (rc := 0) (rs := 0) (mc := 0) (ms := 0) dX5_readBrother_31 lk_5_93 (px_sh1 hw sh_16) rfl rfl (Nat.le_of_ble_eq_true rfl) k1
theorem bX5_readBrother_34 {E : px_E} {d : Nat} {w : pw_W} {Q : Option Value → pw_W → Prop} {t : ct_T} (hw : w.1 = cs t) {x1 y0 : Int32} (ht2 : is_Hamlet t.2.1) 
    (k1 : ¬ y0 = 0 → px_Call E d 0 0 mX5_readNumberBehind [.ref 16, .int 7, .int 1, .int 20] w (fun v w' => px_W E mX5_readBrother (d + 1) 0 0 56 [.ref 16, .int x1] (v.toList ++ [.int x1, .ref (t.2.1 + 7)]) w' Q))
    (k2 : y0 = 0 → Q (some (.int 0)) w) :
    px_W E mX5_readBrother (d + 1) 0 0 34 [.ref 16, .int x1] [.int y0] w Q := by
  refine px_if_ne (tgt := 39) dX5_readBrother_34 (by decide) (fun h1 => ?_) (fun h1 => ?_)
  ·
    refine px_aload_n dX5_readBrother_39 rfl rfl ?_
    refine px_getR (v := t.2.1) dX5_readBrother_40 fr_5_28 rfl (px_sh1 hw sh_16) (px_rf hw rf_16_3) ht2.ne ?_
    refine px_getR (v := (t.2.1 + 7)) dX5_readBrother_43 fr_5_136 rfl (px_sh1 hw ht2.sh) (px_rf hw ht2.rf9) (Nat.succ_ne_zero _) ?_
    refine px_iload_n dX5_readBrother_46 rfl rfl ?_
    refine px_aload_n dX5_readBrother_47 rfl rfl ?_
    refine px_bipush dX5_readBrother_48 bp_7 ?_
    refine px_iconst dX5_readBrother_50 ic_1 ?_
    refine px_bipush dX5_readBrother_51 bp_20 ?_
    exact px_callV (As := [.int 7, .int 1, .int 20]) (st := [.int x1, .ref (t.2.1 + 7)]) (rc := 0) (rs := 0) (mc := 0) (ms := 0) dX5_readBrother_53 lk_5_101 (px_sh1 hw sh_16) rfl rfl (Nat.le_of_ble_eq_true rfl) (k1 h1)
  ·
    refine px_iconst dX5_readBrother_37 ic_0 ?_
    exact px_ireturn dX5_readBrother_38 rfl (by decide) (k2 h1)
theorem bX5_readBrother_56 {E : px_E} {d : Nat} {w : pw_W} {Q : Option Value → pw_W → Prop} {t : ct_T} (hw : w.1 = cs t) {x1 y1 y2 : Int32} (ht2 : is_Hamlet t.2.1) (j1 : Nat) (hj1 : y1 = nI j1) (hl1 : j1 < 2)
    (k1 : px_W E mX5_readBrother (d + 1) 0 0 70 [.ref 16, .int x1] [] (pw_sI (pw_sI w (t.2.1 + 7) j1 y2) t.2.1 8 ((pw_I (pw_sI w (t.2.1 + 7) j1 y2) t.2.1 8) + 1)) Q) :
    px_W E mX5_readBrother (d + 1) 0 0 56 [.ref 16, .int x1] [.int y2, .int y1, .ref (t.2.1 + 7)] w Q := by
  refine px_iast dX5_readBrother_56 (px_sh2 hw ht2.sh7) (by decide) j1 hj1 hl1 (by omega) ?_
  refine px_aload_n dX5_readBrother_57 rfl rfl ?_
  refine px_getR (v := t.2.1) dX5_readBrother_58 fr_5_28 rfl (px_sh1 (hI hw) sh_16) (px_rf (hI hw) rf_16_3) ht2.ne ?_
  refine px_dup dX5_readBrother_61 rfl ?_
  refine px_getI dX5_readBrother_62 fr_5_133 rfl (px_sh1 (hI hw) ht2.sh) ?_
  refine px_iconst dX5_readBrother_65 ic_1 ?_
  refine px_iadd dX5_readBrother_66 ?_
  refine px_putI dX5_readBrother_67 fl_5_133 (Or.inl rfl) rfl (px_sh1 (hI hw) ht2.sh) rfl rfl (by omega) ?_
  exact k1
theorem bX5_readBrother_70 {E : px_E} {d : Nat} {w : pw_W} {Q : Option Value → pw_W → Prop} {t : ct_T} (hw : w.1 = cs t) {x1 : Int32} (ht2 : is_Hamlet t.2.1) 
    (k1 : px_Call E d 0 0 mX5_readKeyword [.ref 16, .int 8] w (fun v w' => px_W E mX5_readBrother (d + 1) 0 0 76 [.ref 16, .int x1] (v.toList ++ []) w' Q)) :
    px_W E mX5_readBrother (d + 1) 0 0 70 [.ref 16, .int x1] [] w Q := by
  refine px_aload_n dX5_readBrother_70 rfl rfl ?_
  refine px_bipush dX5_readBrother_71 bp_8 ?_
  exact px_callV (As := [.int 8]) (st := []) (rc := 0) (rs := 0) (mc := 0) (ms := 0) dX5_readBrother_73 lk_5_139 (px_sh1 hw sh_16) rfl rfl (Nat.le_of_ble_eq_true rfl) k1
theorem bX5_readBrother_76 {E : px_E} {d : Nat} {w : pw_W} {Q : Option Value → pw_W → Prop} {t : ct_T} (hw : w.1 = cs t) {x1 y0 : Int32} (ht2 : is_Hamlet t.2.1) 
    (k1 : y0 = 0 → px_W E mX5_readBrother (d + 1) 0 0 98 [.null, .null] [] w Q)
    (k2 : ¬ y0 = 0 → px_Call E d 0 0 mX5_readRound [.ref 16, .int x1] w (fun v w' => px_W E mX5_readBrother (d + 1) 0 0 84 [.ref 16, .null] (v.toList ++ []) w' Q)) :
    px_W E mX5_readBrother (d + 1) 0 0 76 [.ref 16, .int x1] [.int y0] w Q := by
  refine px_if_eq (tgt := 98) dX5_readBrother_76 (by decide) (fun h1 => ?_) (fun h1 => ?_)
  ·
    exact px_forget (k1 h1) ⟨Or.inl rfl, Or.inl rfl, trivial⟩
  ·
    refine px_aload_n dX5_readBrother_79 rfl rfl ?_
    refine px_iload_n dX5_readBrother_80 rfl rfl ?_
    refine px_forget (ls' := [.ref 16, .null]) ?_ ⟨Or.inr rfl, Or.inl rfl, trivial⟩
    exact px_callV (As := [.int x1]) (st := []) (rc := 0) (rs := 0) (mc := 0) (ms := 0) dX5_readBrother_81 lk_5_142 (px_sh1 hw sh_16) rfl rfl (Nat.le_of_ble_eq_true rfl) (k2 h1)
theorem bX5_readBrother_84 {E : px_E} {d : Nat} {w : pw_W} {Q : Option Value → pw_W → Prop} {t : ct_T} (hw : w.1 = cs t) {y0 : Int32} (ht2 : is_Hamlet t.2.1) 
    (k1 : y0 = 0 → px_W E mX5_readBrother (d + 1) 0 0 98 [.null, .null] [] w Q)
    (k2 : ¬ y0 = 0 → px_Call E d 0 0 mX5_readLineEnd [.ref 16] w (fun v w' => px_W E mX5_readBrother (d + 1) 0 0 91 [.null, .null] (v.toList ++ []) w' Q)) :
    px_W E mX5_readBrother (d + 1) 0 0 84 [.ref 16, .null] [.int y0] w Q := by
  refine px_if_eq (tgt := 98) dX5_readBrother_84 (by decide) (fun h1 => ?_) (fun h1 => ?_)
  ·
    exact px_forget (k1 h1) ⟨Or.inl rfl, Or.inl rfl, trivial⟩
  ·
    refine px_aload_n dX5_readBrother_87 rfl rfl ?_
    refine px_forget (ls' := [.null, .null]) ?_ ⟨Or.inl rfl, Or.inl rfl, trivial⟩
    exact px_callV (As := []) (st := []) (rc := 0) (rs := 0) (mc := 0) (ms := 0) dX5_readBrother_88 lk_5_114 (px_sh1 hw sh_16) rfl rfl (Nat.le_of_ble_eq_true rfl) (k2 h1)
theorem bX5_readBrother_91 {E : px_E} {d : Nat} {w : pw_W} {Q : Option Value → pw_W → Prop} {t : ct_T} (hw : w.1 = cs t) {y0 : Int32} (ht2 : is_Hamlet t.2.1) 
    (k1 : y0 = 0 → px_W E mX5_readBrother (d + 1) 0 0 98 [.null, .null] [] w Q)
    (k2 : ¬ y0 = 0 → px_W E mX5_readBrother (d + 1) 0 0 99 [.null, .null] [.int 1] w Q) :
    px_W E mX5_readBrother (d + 1) 0 0 91 [.null, .null] [.int y0] w Q := by
  refine px_if_eq (tgt := 98) dX5_readBrother_91 (by decide) (fun h1 => ?_) (fun h1 => ?_)
  ·
    exact (k1 h1)
  ·
    refine px_iconst dX5_readBrother_94 ic_1 ?_
    refine px_goto (tgt := 99) dX5_readBrother_95 (by decide) ?_
    exact (k2 h1)
theorem bX5_readBrother_98 {E : px_E} {d : Nat} {w : pw_W} {Q : Option Value → pw_W → Prop} {t : ct_T} (hw : w.1 = cs t) (ht2 : is_Hamlet t.2.1) 
    (k1 : px_W E mX5_readBrother (d + 1) 0 0 99 [.null, .null] [.int 0] w Q) :
    px_W E mX5_readBrother (d + 1) 0 0 98 [.null, .null] [] w Q := by
  refine px_iconst dX5_readBrother_98 ic_0 ?_
  exact k1
theorem bX5_readBrother_99 {E : px_E} {d : Nat} {w : pw_W} {Q : Option Value → pw_W → Prop} {t : ct_T} (hw : w.1 = cs t) {y0 : Int32} (ht2 : is_Hamlet t.2.1) (hb1 : y0 = 0 ∨ y0 = 1)
    (k1 : Q (some (.int y0)) w) :
    px_W E mX5_readBrother (d + 1) 0 0 99 [.null, .null] [.int y0] w Q := by
  exact px_ireturn dX5_readBrother_99 rfl (px_nb (hb1)) k1
theorem dX5_readRound_0 : decode mX5_readRound.2.1 0 = .ok (.iconst 0, 1) := by decide +kernel
theorem dX5_readRound_1 : decode mX5_readRound.2.1 1 = .ok (.istore_n 2, 1) := by decide +kernel
theorem dX5_readRound_2 : decode mX5_readRound.2.1 2 = .ok (.iconst 0, 1) := by decide +kernel
theorem dX5_readRound_3 : decode mX5_readRound.2.1 3 = .ok (.istore_n 3, 1) := by decide +kernel
theorem dX5_readRound_4 : decode mX5_readRound.2.1 4 = .ok (.aload_n 0, 1) := by decide +kernel
theorem dX5_readRound_5 : decode mX5_readRound.2.1 5 = .ok (.iload_n 2, 1) := by decide +kernel
theorem dX5_readRound_6 : decode mX5_readRound.2.1 6 = .ok (.invokevirtual 120, 3) := by decide +kernel
theorem dX5_readRound_9 : decode mX5_readRound.2.1 9 = .ok (.istore 4, 2) := by decide +kernel
theorem dX5_readRound_11 : decode mX5_readRound.2.1 11 = .ok (.iload 4, 2) := by decide +kernel
theorem dX5_readRound_13 : decode mX5_readRound.2.1 13 = .ok (.iconst (-1), 1) := by decide +kernel
theorem dX5_readRound_14 : decode mX5_readRound.2.1 14 = .ok (.if_icmp .eq 9, 3) := by decide +kernel
theorem dX5_readRound_17 : decode mX5_readRound.2.1 17 = .ok (.iload_n 3, 1) := by decide +kernel
theorem dX5_readRound_18 : decode mX5_readRound.2.1 18 = .ok (.bipush 6, 2) := by decide +kernel
theorem dX5_readRound_20 : decode mX5_readRound.2.1 20 = .ok (.if_icmp .lt 5, 3) := by decide +kernel
theorem dX5_readRound_23 : decode mX5_readRound.2.1 23 = .ok (.iconst 0, 1) := by decide +kernel
theorem dX5_readRound_24 : decode mX5_readRound.2.1 24 = .ok (.ireturn, 1) := by decide +kernel
theorem dX5_readRound_25 : decode mX5_readRound.2.1 25 = .ok (.iload_n 2, 1) := by decide +kernel
theorem dX5_readRound_26 : decode mX5_readRound.2.1 26 = .ok (.iconst 1, 1) := by decide +kernel
theorem dX5_readRound_27 : decode mX5_readRound.2.1 27 = .ok (.iload 4, 2) := by decide +kernel
theorem dX5_readRound_29 : decode mX5_readRound.2.1 29 = .ok (.ishl, 1) := by decide +kernel
theorem dX5_readRound_30 : decode mX5_readRound.2.1 30 = .ok (.ior, 1) := by decide +kernel
theorem dX5_readRound_31 : decode mX5_readRound.2.1 31 = .ok (.istore_n 2, 1) := by decide +kernel
theorem dX5_readRound_32 : decode mX5_readRound.2.1 32 = .ok (.aload_n 0, 1) := by decide +kernel
theorem dX5_readRound_33 : decode mX5_readRound.2.1 33 = .ok (.getfield 28, 3) := by decide +kernel
theorem dX5_readRound_36 : decode mX5_readRound.2.1 36 = .ok (.getfield 145, 3) := by decide +kernel
theorem dX5_readRound_39 : decode mX5_readRound.2.1 39 = .ok (.iload_n 1, 1) := by decide +kernel
theorem dX5_readRound_40 : decode mX5_readRound.2.1 40 = .ok (.bipush 6, 2) := by decide +kernel
theorem dX5_readRound_42 : decode mX5_readRound.2.1 42 = .ok (.imul, 1) := by decide +kernel
theorem dX5_readRound_43 : decode mX5_readRound.2.1 43 = .ok (.iload_n 3, 1) := by decide +kernel
theorem dX5_readRound_44 : decode mX5_readRound.2.1 44 = .ok (.iadd, 1) := by decide +kernel
theorem dX5_readRound_45 : decode mX5_readRound.2.1 45 = .ok (.iload 4, 2) := by decide +kernel
theorem dX5_readRound_47 : decode mX5_readRound.2.1 47 = .ok (.iastore, 1) := by decide +kernel
theorem dX5_readRound_48 : decode mX5_readRound.2.1 48 = .ok (.iinc 3 1, 3) := by decide +kernel
theorem dX5_readRound_51 : decode mX5_readRound.2.1 51 = .ok (.aload_n 0, 1) := by decide +kernel
theorem dX5_readRound_52 : decode mX5_readRound.2.1 52 = .ok (.getfield 12, 3) := by decide +kernel
theorem dX5_readRound_55 : decode mX5_readRound.2.1 55 = .ok (.getfield 49, 3) := by decide +kernel
theorem dX5_readRound_58 : decode mX5_readRound.2.1 58 = .ok (.iconst 3, 1) := by decide +kernel
theorem dX5_readRound_59 : decode mX5_readRound.2.1 59 = .ok (.if_icmp .eq (-55), 3) := by decide +kernel
theorem dX5_readRound_62 : decode mX5_readRound.2.1 62 = .ok (.aload_n 0, 1) := by decide +kernel
theorem dX5_readRound_63 : decode mX5_readRound.2.1 63 = .ok (.getfield 28, 3) := by decide +kernel
theorem dX5_readRound_66 : decode mX5_readRound.2.1 66 = .ok (.getfield 148, 3) := by decide +kernel
theorem dX5_readRound_69 : decode mX5_readRound.2.1 69 = .ok (.iload_n 1, 1) := by decide +kernel
theorem dX5_readRound_70 : decode mX5_readRound.2.1 70 = .ok (.iload_n 3, 1) := by decide +kernel
theorem dX5_readRound_71 : decode mX5_readRound.2.1 71 = .ok (.iastore, 1) := by decide +kernel
theorem dX5_readRound_72 : decode mX5_readRound.2.1 72 = .ok (.iconst 1, 1) := by decide +kernel
theorem dX5_readRound_73 : decode mX5_readRound.2.1 73 = .ok (.ireturn, 1) := by decide +kernel
theorem bX5_readRound_0 {E : px_E} {d : Nat} {w : pw_W} {Q : Option Value → pw_W → Prop} {t : ct_T} (hw : w.1 = cs t) {x1 : Int32} (ht2 : is_Hamlet t.2.1) 
    (k1 : px_W E mX5_readRound (d + 1) 0 0 4 [.ref 16, .int x1, .int 0, .int 0, .null] [] w Q) :
    px_W E mX5_readRound (d + 1) 0 0 0 [.ref 16, .int x1, .null, .null, .null] [] w Q := by
  refine px_iconst dX5_readRound_0 ic_0 ?_
  refine px_istore_n (ls' := [.ref 16, .int x1, .int 0, .null, .null]) dX5_readRound_1 rfl ⟨by decide, rfl⟩ rfl ?_
  refine px_iconst dX5_readRound_2 ic_0 ?_
  refine px_istore_n (ls' := [.ref 16, .int x1, .int 0, .int 0, .null]) dX5_readRound_3 rfl ⟨by decide, rfl⟩ rfl ?_
  exact k1
theorem eX5_readRound {E : px_E} {d : Nat} {w : pw_W} {Q : Option Value → pw_W → Prop} {t : ct_T} (hw : w.1 = cs t) {x1 : Int32} (ht2 : is_Hamlet t.2.1) 
    (k1 : px_W E mX5_readRound (d + 1) 0 0 4 [.ref 16, .int x1, .int 0, .int 0, .null] [] w Q) :
    px_Call E (d + 1) 0 0 mX5_readRound [.ref 16, .int x1] w Q :=
  px_enter (k := 3) (by decide) (Nat.le_of_ble_eq_true rfl) rfl (px_forget (bX5_readRound_0 hw ht2 k1) ⟨Or.inr rfl, Or.inr rfl, Or.inl rfl, Or.inl rfl, Or.inl rfl, trivial⟩)
theorem bX5_readRound_4 {E : px_E} {d : Nat} {w : pw_W} {Q : Option Value → pw_W → Prop} {t : ct_T} (hw : w.1 = cs t) {x1 x2 x3 : Int32} (ht2 : is_Hamlet t.2.1) 
    (k1 : px_Call E d 0 0 mX5_readPersonNotIn [.ref 16, .int x2] w (fun v w' => px_W E mX5_readRound (d + 1) 0 0 9 [.ref 16, .int x1, .int x2, .int x3, .null] (v.toList ++ []) w' Q)) :
    px_W E mX5_readRound (d + 1) 0 0 4 [.ref 16, .int x1, .int x2, .int x3, .null] [] w Q := by
  refine px_aload_n dX5_readRound_4 rfl rfl ?_
  refine px_iload_n dX5_readRound_5 rfl rfl ?_
  exact px_callV (As := [.int x2]) (st := []) (rc := 0) (rs := 0) (mc := 0) (ms := 0) dX5_readRound_6 lk_5_120 (px_sh1 hw sh_16) rfl rfl (Nat.le_of_ble_eq_true rfl) k1
theorem bX5_readRound_9 {E : px_E} {d : Nat} {w : pw_W} {Q : Option Value → pw_W → Prop} {t : ct_T} (hw : w.1 = cs t) {x1 x2 x3 y0 : Int32} (ht2 : is_Hamlet t.2.1) 
    (k1 : y0 = (-1) → px_W E mX5_readRound (d + 1) 0 0 23 [.null, .null, .null, .null, .null] [] w Q)
    (k2 : ¬ y0 = (-1) → x3 < 6 → px_W E mX5_readRound (d + 1) 0 0 25 [.ref 16, .int x1, .int x2, .int x3, .int y0] [] w Q)
    (k3 : ¬ y0 = (-1) → ¬ x3 < 6 → px_W E mX5_readRound (d + 1) 0 0 23 [.null, .null, .null, .null, .null] [] w Q) :
    px_W E mX5_readRound (d + 1) 0 0 9 [.ref 16, .int x1, .int x2, .int x3, .null] [.int y0] w Q := by
  refine px_istore (ls' := [.ref 16, .int x1, .int x2, .int x3, .int y0]) dX5_readRound_9 ⟨by decide, rfl⟩ rfl ?_
  refine px_iload dX5_readRound_11 rfl ?_
  refine px_iconst dX5_readRound_13 ic_m1 ?_
  refine px_icmp_eq (tgt := 23) dX5_readRound_14 (by decide) (fun h1 => ?_) (fun h1 => ?_)
  ·
    exact px_forget (k1 h1) ⟨Or.inl rfl, Or.inl rfl, Or.inl rfl, Or.inl rfl, Or.inl rfl, trivial⟩
  ·
    refine px_iload_n dX5_readRound_17 rfl rfl ?_
    refine px_bipush dX5_readRound_18 bp_6 ?_
    refine px_icmp_lt (tgt := 25) dX5_readRound_20 (by decide) (fun h2 => ?_) (fun h2 => ?_)
    ·
      exact (k2 h1 h2)
    ·
      exact px_forget (k3 h1 h2) ⟨Or.inl rfl, Or.inl rfl, Or.inl rfl, Or.inl rfl, Or.inl rfl, trivial⟩
theorem bX5_readRound_23 {E : px_E} {d : Nat} {w : pw_W} {Q : Option Value → pw_W → Prop} {t : ct_T} (hw : w.1 = cs t) (ht2 : is_Hamlet t.2.1) 
    (k1 : Q (some (.int 0)) w) :
    px_W E mX5_readRound (d + 1) 0 0 23 [.null, .null, .null, .null, .null] [] w Q := by
  refine px_iconst dX5_readRound_23 ic_0 ?_
  exact px_ireturn dX5_readRound_24 rfl (by decide) k1
theorem bX5_readRound_25 {E : px_E} {d : Nat} {w : pw_W} {Q : Option Value → pw_W → Prop} {t : ct_T} (hw : w.1 = cs t) {x1 x2 x3 x4 : Int32} (ht2 : is_Hamlet t.2.1) (j1 : Nat) (hj1 : ((x1 * 6) + x3) = nI j1) (hl1 : j1 < 12)
    (k1 : (pw_I (pw_sI w (t.2.1 + 9) j1 x4) 17 4) = 3 → px_W E mX5_readRound (d + 1) 0 0 4 [.ref 16, .int x1, .int (x2 ||| (js_shl 1 x4)), .int (x3 + 1), .null] [] (pw_sI w (t.2.1 + 9) j1 x4) Q)
    (k2 : ¬ (pw_I (pw_sI w (t.2.1 + 9) j1 x4) 17 4) = 3 → px_W E mX5_readRound (d + 1) 0 0 62 [.ref 16, .int x1, .null, .int (x3 + 1), .null] [] (pw_sI w (t.2.1 + 9) j1 x4) Q) :
    px_W E mX5_readRound (d + 1) 0 0 25 [.ref 16, .int x1, .int x2, .int x3, .int x4] [] w Q := by
  refine px_iload_n dX5_readRound_25 rfl rfl ?_
  refine px_iconst dX5_readRound_26 ic_1 ?_
  refine px_iload dX5_readRound_27 rfl ?_
  refine px_ishl dX5_readRound_29 ?_
  refine px_ior dX5_readRound_30 ?_
  refine px_istore_n (ls' := [.ref 16, .int x1, .int (x2 ||| (js_shl 1 x4)), .int x3, .int x4]) dX5_readRound_31 rfl ⟨by decide, rfl⟩ rfl ?_
  refine px_aload_n dX5_readRound_32 rfl rfl ?_
  refine px_getR (v := t.2.1) dX5_readRound_33 fr_5_28 rfl (px_sh1 hw sh_16) (px_rf hw rf_16_3) ht2.ne ?_
  refine px_getR (v := (t.2.1 + 9)) dX5_readRound_36 fr_5_145 rfl (px_sh1 hw ht2.sh) (px_rf hw ht2.rf11) (Nat.succ_ne_zero _) ?_
  refine px_iload_n dX5_readRound_39 rfl rfl ?_
  refine px_bipush dX5_readRound_40 bp_6 ?_
  refine px_imul dX5_readRound_42 ?_
  refine px_iload_n dX5_readRound_43 rfl rfl ?_
  refine px_iadd dX5_readRound_44 ?_
  refine px_iload dX5_readRound_45 rfl ?_
  refine px_iast dX5_readRound_47 (px_sh2 hw ht2.sh9) (by decide) j1 hj1 hl1 (by omega) ?_
  refine px_iinc (ls' := [.ref 16, .int x1, .int (x2 ||| (js_shl 1 x4)), .int (x3 + 1), .int x4]) dX5_readRound_48 ⟨by decide, rfl⟩ rfl rfl rfl ?_
  refine px_aload_n dX5_readRound_51 rfl rfl ?_
  refine px_getR (v := 17) dX5_readRound_52 fr_5_12 rfl (px_sh1 (hI hw) sh_16) (px_rf (hI hw) rf_16_0) (by decide) ?_
  refine px_getI dX5_readRound_55 fr_5_49 rfl (px_sh1 (hI hw) sh_17) ?_
  refine px_iconst dX5_readRound_58 ic_3 ?_
  refine px_icmp_eq (tgt := 4) dX5_readRound_59 (by decide) (fun h1 => ?_) (fun h1 => ?_)
  ·
    exact px_forget (k1 h1) ⟨Or.inr rfl, Or.inr rfl, Or.inr rfl, Or.inr rfl, Or.inl rfl, trivial⟩
  ·
    exact px_forget (k2 h1) ⟨Or.inr rfl, Or.inr rfl, Or.inl rfl, Or.inr rfl, Or.inl rfl, trivial⟩
theorem bX5_readRound_62 {E : px_E} {d : Nat} {w : pw_W} {Q : Option Value → pw_W → Prop} {t : ct_T} (hw : w.1 = cs t) {x1 x3 : Int32} (ht2 : is_Hamlet t.2.1) (j1 : Nat) (hj1 : x1 = nI j1) (hl1 : j1 < 2)
    (k1 : Q (some (.int 1)) (pw_sI w (t.2.1 + 8) j1 x3)) :
    px_W E mX5_readRound (d + 1) 0 0 62 [.ref 16, .int x1, .null, .int x3, .null] [] w Q := by
  refine px_aload_n dX5_readRound_62 rfl rfl ?_
  refine px_getR (v := t.2.1) dX5_readRound_63 fr_5_28 rfl (px_sh1 hw sh_16) (px_rf hw rf_16_3) ht2.ne ?_
  refine px_getR (v := (t.2.1 + 8)) dX5_readRound_66 fr_5_148 rfl (px_sh1 hw ht2.sh) (px_rf hw ht2.rf10) (Nat.succ_ne_zero _) ?_
  refine px_iload_n dX5_readRound_69 rfl rfl ?_
  refine px_iload_n dX5_readRound_70 rfl rfl ?_
  refine px_iast dX5_readRound_71 (px_sh2 hw ht2.sh8) (by decide) j1 hj1 hl1 (by omega) ?_
  refine px_iconst dX5_readRound_72 ic_1 ?_
  exact px_ireturn dX5_readRound_73 rfl (by decide) k1
theorem dX5_readFormula_0 : decode mX5_readFormula.2.1 0 = .ok (.aload_n 0, 1) := by decide +kernel
theorem dX5_readFormula_1 : decode mX5_readFormula.2.1 1 = .ok (.iconst 3, 1) := by decide +kernel
theorem dX5_readFormula_2 : decode mX5_readFormula.2.1 2 = .ok (.invokevirtual 151, 3) := by decide +kernel
theorem dX5_readFormula_5 : decode mX5_readFormula.2.1 5 = .ok (.ifCond .ne 8, 3) := by decide +kernel
theorem dX5_readFormula_8 : decode mX5_readFormula.2.1 8 = .ok (.aload_n 0, 1) := by decide +kernel
theorem dX5_readFormula_9 : decode mX5_readFormula.2.1 9 = .ok (.invokevirtual 56, 3) := by decide +kernel
theorem dX5_readFormula_12 : decode mX5_readFormula.2.1 12 = .ok (.ireturn, 1) := by decide +kernel
theorem dX5_readFormula_13 : decode mX5_readFormula.2.1 13 = .ok (.aload_n 0, 1) := by decide +kernel
theorem dX5_readFormula_14 : decode mX5_readFormula.2.1 14 = .ok (.getfield 12, 3) := by decide +kernel
theorem dX5_readFormula_17 : decode mX5_readFormula.2.1 17 = .ok (.invokevirtual 90, 3) := by decide +kernel
theorem dX5_readFormula_20 : decode mX5_readFormula.2.1 20 = .ok (.aload_n 0, 1) := by decide +kernel
theorem dX5_readFormula_21 : decode mX5_readFormula.2.1 21 = .ok (.getfield 28, 3) := by decide +kernel
theorem dX5_readFormula_24 : decode mX5_readFormula.2.1 24 = .ok (.getfield 154, 3) := by decide +kernel
theorem dX5_readFormula_27 : decode mX5_readFormula.2.1 27 = .ok (.invokevirtual 158, 3) := by decide +kernel
theorem dX5_readFormula_30 : decode mX5_readFormula.2.1 30 = .ok (.aload_n 0, 1) := by decide +kernel
theorem dX5_readFormula_31 : decode mX5_readFormula.2.1 31 = .ok (.iconst 0, 1) := by decide +kernel
theorem dX5_readFormula_32 : decode mX5_readFormula.2.1 32 = .ok (.iconst 0, 1) := by decide +kernel
theorem dX5_readFormula_33 : decode mX5_readFormula.2.1 33 = .ok (.invokevirtual 161, 3) := by decide +kernel
theorem dX5_readFormula_36 : decode mX5_readFormula.2.1 36 = .ok (.ifCond .eq 14, 3) := by decide +kernel
theorem dX5_readFormula_39 : decode mX5_readFormula.2.1 39 = .ok (.aload_n 0, 1) := by decide +kernel
theorem dX5_readFormula_40 : decode mX5_readFormula.2.1 40 = .ok (.invokevirtual 114, 3) := by decide +kernel
theorem dX5_readFormula_43 : decode mX5_readFormula.2.1 43 = .ok (.ifCond .eq 7, 3) := by decide +kernel
theorem dX5_readFormula_46 : decode mX5_readFormula.2.1 46 = .ok (.iconst 1, 1) := by decide +kernel
theorem dX5_readFormula_47 : decode mX5_readFormula.2.1 47 = .ok (.goto 4, 3) := by decide +kernel
theorem dX5_readFormula_50 : decode mX5_readFormula.2.1 50 = .ok (.iconst 0, 1) := by decide +kernel
theorem dX5_readFormula_51 : decode mX5_readFormula.2.1 51 = .ok (.ireturn, 1) := by decide +kernel
theorem bX5_readFormula_0 {E : px_E} {d : Nat} {w : pw_W} {Q : Option Value → pw_W → Prop} {t : ct_T} (hw : w.1 = cs t) (ht2 : is_Hamlet t.2.1) 
    (k1 : px_Call E d 0 0 mX5_isFirstTime [.ref 16, .int 3] w (fun v w' => px_W E mX5_readFormula (d + 1) 0 0 5 [.ref 16] (v.toList ++ []) w' Q)) :
    px_W E mX5_readFormula (d + 1) 0 0 0 [.ref 16] [] w Q := by
  refine px_aload_n dX5_readFormula_0 rfl rfl ?_
  refine px_iconst dX5_readFormula_1 ic_3 ?_
  exact px_callV (As := [.int 3]) (st := []) (rc := 0) (rs := 0) (mc := 0) (ms := 0) dX5_readFormula_2 lk_5_151 (px_sh1 hw sh_16) rfl rfl (Nat.le_of_ble_eq_true rfl) k1
theorem eX5_readFormula {E : px_E} {d : Nat} {w : pw_W} {Q : Option Value → pw_W → Prop} {t : ct_T} (hw : w.1 = cs t) (ht2 : is_Hamlet t.2.1) 
    (k1 : px_Call E d 0 0 mX5_isFirstTime [.ref 16, .int 3] w (fun v w' => px_W E mX5_readFormula (d + 1) 0 0 5 [.ref 16] (v.toList ++ []) w' Q)) :
    px_Call E (d + 1) 0 0 mX5_readFormula [.ref 16] w Q :=
  px_enter (k := 0) (by decide) (Nat.le_of_ble_eq_true rfl) rfl (px_forget (bX5_readFormula_0 hw ht2 k1) ⟨Or.inr rfl, trivial⟩)
theorem bX5_readFormula_5 {E : px_E} {d : Nat} {w : pw_W} {Q : Option Value → pw_W → Prop} {t : ct_T} (hw : w.1 = cs t) {y0 : Int32} (ht2 : is_Hamlet t.2.1) 
    (k1 : ¬ y0 = 0 → px_Call E d 0 0 mX6_advance [.ref 17] w (fun v w' => px_W E mX5_readFormula (d + 1) 0 0 20 [.ref 16] (v.toList ++ []) w' Q))
    (k2 : y0 = 0 → px_Call E d 0 0 mX5_refuse [.ref 16] w (fun v w' => px_W E mX5_readFormula (d + 1) 0 0 12 [.null] (v.toList ++ []) w' Q)) :
    px_W E mX5_readFormula (d + 1) 0 0 5 [.ref 16] [.int y0] w Q := by
  refine px_if_ne (tgt := 13) dX5_readFormula_5 (by decide) (fun h1 => ?_) (fun h1 => ?_)
  ·
    refine px_aload_n dX5_readFormula_13 rfl rfl ?_
    refine px_getR (v := 17) dX5_readFormula_14 fr_5_12 rfl (px_sh1 hw sh_16) (px_rf hw rf_16_0) (by decide) ?_
    exact px_callV (As := []) (st := []) (rc := 0) (rs := 0) (mc := 0) (ms := 0) dX5_readFormula_17 lk_5_90 (px_sh1 hw sh_17) rfl rfl (Nat.le_of_ble_eq_true rfl) (k1 h1)
  ·
    refine px_aload_n dX5_readFormula_8 rfl rfl ?_
    refine px_forget (ls' := [.null]) ?_ ⟨Or.inl rfl, trivial⟩
    exact px_callV (As := []) (st := []) (rc := 0) (rs := 0) (mc := 0) (ms := 0) dX5_readFormula_9 lk_5_56 (px_sh1 hw sh_16) rfl rfl (Nat.le_of_ble_eq_true rfl) (k2 h1)
theorem bX5_readFormula_12 {E : px_E} {d : Nat} {w : pw_W} {Q : Option Value → pw_W → Prop} {t : ct_T} (hw : w.1 = cs t) {y0 : Int32} (ht2 : is_Hamlet t.2.1) (hb1 : y0 = 0 ∨ y0 = 1)
    (k1 : Q (some (.int y0)) w) :
    px_W E mX5_readFormula (d + 1) 0 0 12 [.null] [.int y0] w Q := by
  exact px_ireturn dX5_readFormula_12 rfl (px_nb (hb1)) k1
theorem bX5_readFormula_20 {E : px_E} {d : Nat} {w : pw_W} {Q : Option Value → pw_W → Prop} {t : ct_T} (hw : w.1 = cs t) (ht2 : is_Hamlet t.2.1) 
    (k1 : px_Call E d 0 0 mX1_clear [.ref (t.2.1 + 10)] w (fun v w' => px_W E mX5_readFormula (d + 1) 0 0 30 [.ref 16] (v.toList ++ []) w' Q)) :
    px_W E mX5_readFormula (d + 1) 0 0 20 [.ref 16] [] w Q := by
  refine px_aload_n dX5_readFormula_20 rfl rfl ?_
  refine px_getR (v := t.2.1) dX5_readFormula_21 fr_5_28 rfl (px_sh1 hw sh_16) (px_rf hw rf_16_3) ht2.ne ?_
  refine px_getR (v := (t.2.1 + 10)) dX5_readFormula_24 fr_5_154 rfl (px_sh1 hw ht2.sh) (px_rf hw ht2.rf15) (Nat.succ_ne_zero _) ?_
  exact px_callV (As := []) (st := []) (rc := 0) (rs := 0) (mc := 0) (ms := 0) dX5_readFormula_27 lk_5_158 (px_sh1 hw ht2.is10.sh) rfl rfl (Nat.le_of_ble_eq_true rfl) k1
theorem bX5_readFormula_30 {E : px_E} {d : Nat} {w : pw_W} {Q : Option Value → pw_W → Prop} {t : ct_T} (hw : w.1 = cs t) (ht2 : is_Hamlet t.2.1) 
    (k1 : px_Call E d 0 0 mX5_readChain [.ref 16, .int 0, .int 0] w (fun v w' => px_W E mX5_readFormula (d + 1) 0 0 36 [.ref 16] (v.toList ++ []) w' Q)) :
    px_W E mX5_readFormula (d + 1) 0 0 30 [.ref 16] [] w Q := by
  refine px_aload_n dX5_readFormula_30 rfl rfl ?_
  refine px_iconst dX5_readFormula_31 ic_0 ?_
  refine px_iconst dX5_readFormula_32 ic_0 ?_
  exact px_callV (As := [.int 0, .int 0]) (st := []) (rc := 0) (rs := 0) (mc := 0) (ms := 0) dX5_readFormula_33 lk_5_161 (px_sh1 hw sh_16) rfl rfl (Nat.le_of_ble_eq_true rfl) k1
theorem bX5_readFormula_36 {E : px_E} {d : Nat} {w : pw_W} {Q : Option Value → pw_W → Prop} {t : ct_T} (hw : w.1 = cs t) {y0 : Int32} (ht2 : is_Hamlet t.2.1) 
    (k1 : y0 = 0 → px_W E mX5_readFormula (d + 1) 0 0 50 [.null] [] w Q)
    (k2 : ¬ y0 = 0 → px_Call E d 0 0 mX5_readLineEnd [.ref 16] w (fun v w' => px_W E mX5_readFormula (d + 1) 0 0 43 [.null] (v.toList ++ []) w' Q)) :
    px_W E mX5_readFormula (d + 1) 0 0 36 [.ref 16] [.int y0] w Q := by
  refine px_if_eq (tgt := 50) dX5_readFormula_36 (by decide) (fun h1 => ?_) (fun h1 => ?_)
  ·
    exact px_forget (k1 h1) ⟨Or.inl rfl, trivial⟩
  ·
    refine px_aload_n dX5_readFormula_39 rfl rfl ?_
    refine px_forget (ls' := [.null]) ?_ ⟨Or.inl rfl, trivial⟩
    exact px_callV (As := []) (st := []) (rc := 0) (rs := 0) (mc := 0) (ms := 0) dX5_readFormula_40 lk_5_114 (px_sh1 hw sh_16) rfl rfl (Nat.le_of_ble_eq_true rfl) (k2 h1)
theorem bX5_readFormula_43 {E : px_E} {d : Nat} {w : pw_W} {Q : Option Value → pw_W → Prop} {t : ct_T} (hw : w.1 = cs t) {y0 : Int32} (ht2 : is_Hamlet t.2.1) 
    (k1 : y0 = 0 → px_W E mX5_readFormula (d + 1) 0 0 50 [.null] [] w Q)
    (k2 : ¬ y0 = 0 → px_W E mX5_readFormula (d + 1) 0 0 51 [.null] [.int 1] w Q) :
    px_W E mX5_readFormula (d + 1) 0 0 43 [.null] [.int y0] w Q := by
  refine px_if_eq (tgt := 50) dX5_readFormula_43 (by decide) (fun h1 => ?_) (fun h1 => ?_)
  ·
    exact (k1 h1)
  ·
    refine px_iconst dX5_readFormula_46 ic_1 ?_
    refine px_goto (tgt := 51) dX5_readFormula_47 (by decide) ?_
    exact (k2 h1)
theorem bX5_readFormula_50 {E : px_E} {d : Nat} {w : pw_W} {Q : Option Value → pw_W → Prop} {t : ct_T} (hw : w.1 = cs t) (ht2 : is_Hamlet t.2.1) 
    (k1 : px_W E mX5_readFormula (d + 1) 0 0 51 [.null] [.int 0] w Q) :
    px_W E mX5_readFormula (d + 1) 0 0 50 [.null] [] w Q := by
  refine px_iconst dX5_readFormula_50 ic_0 ?_
  exact k1
theorem bX5_readFormula_51 {E : px_E} {d : Nat} {w : pw_W} {Q : Option Value → pw_W → Prop} {t : ct_T} (hw : w.1 = cs t) {y0 : Int32} (ht2 : is_Hamlet t.2.1) (hb1 : y0 = 0 ∨ y0 = 1)
    (k1 : Q (some (.int y0)) w) :
    px_W E mX5_readFormula (d + 1) 0 0 51 [.null] [.int y0] w Q := by
  exact px_ireturn dX5_readFormula_51 rfl (px_nb (hb1)) k1
theorem dX5_readSetting_0 : decode mX5_readSetting.2.1 0 = .ok (.aload_n 0, 1) := by decide +kernel
theorem dX5_readSetting_1 : decode mX5_readSetting.2.1 1 = .ok (.iload_n 1, 1) := by decide +kernel
theorem dX5_readSetting_2 : decode mX5_readSetting.2.1 2 = .ok (.invokevirtual 151, 3) := by decide +kernel
theorem dX5_readSetting_5 : decode mX5_readSetting.2.1 5 = .ok (.ifCond .ne 10, 3) := by decide +kernel
theorem dX5_readSetting_8 : decode mX5_readSetting.2.1 8 = .ok (.aload_n 0, 1) := by decide +kernel
theorem dX5_readSetting_9 : decode mX5_readSetting.2.1 9 = .ok (.invokevirtual 56, 3) := by decide +kernel
theorem dX5_readSetting_12 : decode mX5_readSetting.2.1 12 = .ok (.pop, 1) := by decide +kernel
theorem dX5_readSetting_13 : decode mX5_readSetting.2.1 13 = .ok (.iconst (-1), 1) := by decide +kernel
theorem dX5_readSetting_14 : decode mX5_readSetting.2.1 14 = .ok (.ireturn, 1) := by decide +kernel
theorem dX5_readSetting_15 : decode mX5_readSetting.2.1 15 = .ok (.aload_n 0, 1) := by decide +kernel
theorem dX5_readSetting_16 : decode mX5_readSetting.2.1 16 = .ok (.iload_n 1, 1) := by decide +kernel
theorem dX5_readSetting_17 : decode mX5_readSetting.2.1 17 = .ok (.iload_n 2, 1) := by decide +kernel
theorem dX5_readSetting_18 : decode mX5_readSetting.2.1 18 = .ok (.iload_n 3, 1) := by decide +kernel
theorem dX5_readSetting_19 : decode mX5_readSetting.2.1 19 = .ok (.invokevirtual 101, 3) := by decide +kernel
theorem dX5_readSetting_22 : decode mX5_readSetting.2.1 22 = .ok (.istore 4, 2) := by decide +kernel
theorem dX5_readSetting_24 : decode mX5_readSetting.2.1 24 = .ok (.aload_n 0, 1) := by decide +kernel
theorem dX5_readSetting_25 : decode mX5_readSetting.2.1 25 = .ok (.invokevirtual 114, 3) := by decide +kernel
theorem dX5_readSetting_28 : decode mX5_readSetting.2.1 28 = .ok (.pop, 1) := by decide +kernel
theorem dX5_readSetting_29 : decode mX5_readSetting.2.1 29 = .ok (.iload 4, 2) := by decide +kernel
theorem dX5_readSetting_31 : decode mX5_readSetting.2.1 31 = .ok (.ireturn, 1) := by decide +kernel
theorem bX5_readSetting_0 {E : px_E} {d : Nat} {w : pw_W} {Q : Option Value → pw_W → Prop} {t : ct_T} (hw : w.1 = cs t) {x1 x2 x3 : Int32}  
    (k1 : px_Call E d 0 0 mX5_isFirstTime [.ref 16, .int x1] w (fun v w' => px_W E mX5_readSetting (d + 1) 0 0 5 [.ref 16, .int x1, .int x2, .int x3, .null] (v.toList ++ []) w' Q)) :
    px_W E mX5_readSetting (d + 1) 0 0 0 [.ref 16, .int x1, .int x2, .int x3, .null] [] w Q := by
  refine px_aload_n dX5_readSetting_0 rfl rfl ?_
  refine px_iload_n dX5_readSetting_1 rfl rfl ?_
  exact px_callV (As := [.int x1]) (st := []) (rc := 0) (rs := 0) (mc := 0) (ms := 0) dX5_readSetting_2 lk_5_151 (px_sh1 hw sh_16) rfl rfl (Nat.le_of_ble_eq_true rfl) k1
theorem eX5_readSetting {E : px_E} {d : Nat} {w : pw_W} {Q : Option Value → pw_W → Prop} {t : ct_T} (hw : w.1 = cs t) {x1 x2 x3 : Int32}  
    (k1 : px_Call E d 0 0 mX5_isFirstTime [.ref 16, .int x1] w (fun v w' => px_W E mX5_readSetting (d + 1) 0 0 5 [.ref 16, .int x1, .int x2, .int x3, .null] (v.toList ++ []) w' Q)) :
    px_Call E (d + 1) 0 0 mX5_readSetting [.ref 16, .int x1, .int x2, .int x3] w Q :=
  px_enter (k := 1) (by decide) (Nat.le_of_ble_eq_true rfl) rfl (px_forget (bX5_readSetting_0 hw k1) ⟨Or.inr rfl, Or.inr rfl, Or.inr rfl, Or.inr rfl, Or.inl rfl, trivial⟩)
theorem bX5_readSetting_5 {E : px_E} {d : Nat} {w : pw_W} {Q : Option Value → pw_W → Prop} {t : ct_T} (hw : w.1 = cs t) {x1 x2 x3 y0 : Int32}  
    (k1 : ¬ y0 = 0 → px_Call E d 0 0 mX5_readNumberBehind [.ref 16, .int x1, .int x2, .int x3] w (fun v w' => px_W E mX5_readSetting (d + 1) 0 0 22 [.ref 16, .null, .null, .null, .null] (v.toList ++ []) w' Q))
    (k2 : y0 = 0 → px_Call E d 0 0 mX5_refuse [.ref 16] w (fun v w' => px_W E mX5_readSetting (d + 1) 0 0 12 [.null, .null, .null, .null, .null] (v.toList ++ []) w' Q)) :
    px_W E mX5_readSetting (d + 1) 0 0 5 [.ref 16, .int x1, .int x2, .int x3, .null] [.int y0] w Q := by
  refine px_if_ne (tgt := 15) dX5_readSetting_5 (by decide) (fun h1 => ?_) (fun h1 => ?_)
  ·
    refine px_aload_n dX5_readSetting_15 rfl rfl ?_
    refine px_iload_n dX5_readSetting_16 rfl rfl ?_
    refine px_iload_n dX5_readSetting_17 rfl rfl ?_
    refine px_iload_n dX5_readSetting_18 rfl rfl ?_
    refine px_forget (ls' := [.ref 16, .null, .null, .null, .null]) ?_ ⟨Or.inr rfl, Or.inl rfl, Or.inl rfl, Or.inl rfl, Or.inl rfl, trivial⟩
    exact px_callV (As := [.int x1, .int x2, .int x3]) (st := []) (rc := 0) (rs := 0) (mc := 0) (ms := 0) dX5_readSetting_19 lk_5_101 (px_sh1 hw sh_16) rfl rfl (Nat.le_of_ble_eq_true rfl) (k1 h1)
  ·
    refine px_aload_n dX5_readSetting_8 rfl rfl ?_
    refine px_forget (ls' := [.null, .null, .null, .null, .null]) ?_ ⟨Or.inl rfl, Or.inl rfl, Or.inl rfl, Or.inl rfl, Or.inl rfl, trivial⟩
    exact px_callV (As := []) (st := []) (rc := 0) (rs := 0) (mc := 0) (ms := 0) dX5_readSetting_9 lk_5_56 (px_sh1 hw sh_16) rfl rfl (Nat.le_of_ble_eq_true rfl) (k2 h1)
theorem bX5_readSetting_12 {E : px_E} {d : Nat} {w : pw_W} {Q : Option Value → pw_W → Prop} {t : ct_T} (hw : w.1 = cs t) {y0 : Int32}  
    (k1 : Q (some (.int (-1))) w) :
    px_W E mX5_readSetting (d + 1) 0 0 12 [.null, .null, .null, .null, .null] [.int y0] w Q := by
  refine px_pop dX5_readSetting_12 rfl ?_
  refine px_iconst dX5_readSetting_13 ic_m1 ?_
  exact px_ireturn dX5_readSetting_14 rfl rfl k1
theorem bX5_readSetting_22 {E : px_E} {d : Nat} {w : pw_W} {Q : Option Value → pw_W → Prop} {t : ct_T} (hw : w.1 = cs t) {y0 : Int32}  
    (k1 : px_Call E d 0 0 mX5_readLineEnd [.ref 16] w (fun v w' => px_W E mX5_readSetting (d + 1) 0 0 28 [.null, .null, .null, .null, .int y0] (v.toList ++ []) w' Q)) :
    px_W E mX5_readSetting (d + 1) 0 0 22 [.ref 16, .null, .null, .null, .null] [.int y0] w Q := by
  refine px_istore (ls' := [.ref 16, .null, .null, .null, .int y0]) dX5_readSetting_22 ⟨by decide, rfl⟩ rfl ?_
  refine px_aload_n dX5_readSetting_24 rfl rfl ?_
  refine px_forget (ls' := [.null, .null, .null, .null, .int y0]) ?_ ⟨Or.inl rfl, Or.inl rfl, Or.inl rfl, Or.inl rfl, Or.inr rfl, trivial⟩
  exact px_callV (As := []) (st := []) (rc := 0) (rs := 0) (mc := 0) (ms := 0) dX5_readSetting_25 lk_5_114 (px_sh1 hw sh_16) rfl rfl (Nat.le_of_ble_eq_true rfl) k1
theorem bX5_readSetting_28 {E : px_E} {d : Nat} {w : pw_W} {Q : Option Value → pw_W → Prop} {t : ct_T} (hw : w.1 = cs t) {x4 y0 : Int32}  
    (k1 : Q (some (.int x4)) w) :
    px_W E mX5_readSetting (d + 1) 0 0 28 [.null, .null, .null, .null, .int x4] [.int y0] w Q := by
  refine px_pop dX5_readSetting_28 rfl ?_
  refine px_iload dX5_readSetting_29 rfl ?_
  exact px_ireturn dX5_readSetting_31 rfl rfl k1
theorem dX5_isFirstTime_0 : decode mX5_isFirstTime.2.1 0 = .ok (.aload_n 0, 1) := by decide +kernel
theorem dX5_isFirstTime_1 : decode mX5_isFirstTime.2.1 1 = .ok (.getfield 35, 3) := by decide +kernel
theorem dX5_isFirstTime_4 : decode mX5_isFirstTime.2.1 4 = .ok (.iload_n 1, 1) := by decide +kernel
theorem dX5_isFirstTime_5 : decode mX5_isFirstTime.2.1 5 = .ok (.ishr, 1) := by decide +kernel
theorem dX5_isFirstTime_6 : decode mX5_isFirstTime.2.1 6 = .ok (.iconst 1, 1) := by decide +kernel
theorem dX5_isFirstTime_7 : decode mX5_isFirstTime.2.1 7 = .ok (.iand, 1) := by decide +kernel
theorem dX5_isFirstTime_8 : decode mX5_isFirstTime.2.1 8 = .ok (.ifCond .ne 7, 3) := by decide +kernel
theorem dX5_isFirstTime_11 : decode mX5_isFirstTime.2.1 11 = .ok (.iconst 1, 1) := by decide +kernel
theorem dX5_isFirstTime_12 : decode mX5_isFirstTime.2.1 12 = .ok (.goto 4, 3) := by decide +kernel
theorem dX5_isFirstTime_15 : decode mX5_isFirstTime.2.1 15 = .ok (.iconst 0, 1) := by decide +kernel
theorem dX5_isFirstTime_16 : decode mX5_isFirstTime.2.1 16 = .ok (.istore_n 2, 1) := by decide +kernel
theorem dX5_isFirstTime_17 : decode mX5_isFirstTime.2.1 17 = .ok (.aload_n 0, 1) := by decide +kernel
theorem dX5_isFirstTime_18 : decode mX5_isFirstTime.2.1 18 = .ok (.dup, 1) := by decide +kernel
theorem dX5_isFirstTime_19 : decode mX5_isFirstTime.2.1 19 = .ok (.getfield 35, 3) := by decide +kernel
theorem dX5_isFirstTime_22 : decode mX5_isFirstTime.2.1 22 = .ok (.iconst 1, 1) := by decide +kernel
theorem dX5_isFirstTime_23 : decode mX5_isFirstTime.2.1 23 = .ok (.iload_n 1, 1) := by decide +kernel
theorem dX5_isFirstTime_24 : decode mX5_isFirstTime.2.1 24 = .ok (.ishl, 1) := by decide +kernel
theorem dX5_isFirstTime_25 : decode mX5_isFirstTime.2.1 25 = .ok (.ior, 1) := by decide +kernel
theorem dX5_isFirstTime_26 : decode mX5_isFirstTime.2.1 26 = .ok (.putfield 35, 3) := by decide +kernel
theorem dX5_isFirstTime_29 : decode mX5_isFirstTime.2.1 29 = .ok (.iload_n 2, 1) := by decide +kernel
theorem dX5_isFirstTime_30 : decode mX5_isFirstTime.2.1 30 = .ok (.ireturn, 1) := by decide +kernel
theorem bX5_isFirstTime_0 {E : px_E} {d : Nat} {w : pw_W} {Q : Option Value → pw_W → Prop} {t : ct_T} (hw : w.1 = cs t) {x1 : Int32}  
    (k1 : ¬ ((js_shr (pw_I w 16 4) x1) &&& 1) = 0 → px_W E mX5_isFirstTime (d + 1) 0 0 16 [.ref 16, .int x1, .null] [.int 0] w Q)
    (k2 : ((js_shr (pw_I w 16 4) x1) &&& 1) = 0 → px_W E mX5_isFirstTime (d + 1) 0 0 16 [.ref 16, .int x1, .null] [.int 1] w Q) :
    px_W E mX5_isFirstTime (d + 1) 0 0 0 [.ref 16, .int x1, .null] [] w Q := by
  refine px_aload_n dX5_isFirstTime_0 rfl rfl ?_
  refine px_getI dX5_isFirstTime_1 fr_5_35 rfl (px_sh1 hw sh_16) ?_
  refine px_iload_n dX5_isFirstTime_4 rfl rfl ?_
  refine px_ishr dX5_isFirstTime_5 ?_
  refine px_iconst dX5_isFirstTime_6 ic_1 ?_
  refine px_iand dX5_isFirstTime_7 ?_
  refine px_if_ne (tgt := 15) dX5_isFirstTime_8 (by decide) (fun h1 => ?_) (fun h1 => ?_)
  ·
    refine px_iconst dX5_isFirstTime_15 ic_0 ?_
    exact (k1 h1)
  ·
    refine px_iconst dX5_isFirstTime_11 ic_1 ?_
    refine px_goto (tgt := 16) dX5_isFirstTime_12 (by decide) ?_
    exact (k2 h1)
theorem eX5_isFirstTime {E : px_E} {d : Nat} {w : pw_W} {Q : Option Value → pw_W → Prop} {t : ct_T} (hw : w.1 = cs t) {x1 : Int32}  
    (k1 : ¬ ((js_shr (pw_I w 16 4) x1) &&& 1) = 0 → px_W E mX5_isFirstTime (d + 1) 0 0 16 [.ref 16, .int x1, .null] [.int 0] w Q)
    (k2 : ((js_shr (pw_I w 16 4) x1) &&& 1) = 0 → px_W E mX5_isFirstTime (d + 1) 0 0 16 [.ref 16, .int x1, .null] [.int 1] w Q) :
    px_Call E (d + 1) 0 0 mX5_isFirstTime [.ref 16, .int x1] w Q :=
  px_enter (k := 1) (by decide) (Nat.le_of_ble_eq_true rfl) rfl (px_forget (bX5_isFirstTime_0 hw k1 k2) ⟨Or.inr rfl, Or.inr rfl, Or.inl rfl, trivial⟩)
theorem bX5_isFirstTime_16 {E : px_E} {d : Nat} {w : pw_W} {Q : Option Value → pw_W → Prop} {t : ct_T} (hw : w.1 = cs t) {x1 y0 : Int32}  (hb1 : y0 = 0 ∨ y0 = 1)
    (k1 : Q (some (.int y0)) (pw_sI w 16 4 ((pw_I w 16 4) ||| (js_shl 1 x1)))) :
    px_W E mX5_isFirstTime (d + 1) 0 0 16 [.ref 16, .int x1, .null] [.int y0] w Q := by
  refine px_istore_n (ls' := [.ref 16, .int x1, .int y0]) dX5_isFirstTime_16 rfl ⟨by decide, rfl⟩ rfl ?_
  refine px_aload_n dX5_isFirstTime_17 rfl rfl ?_
  refine px_dup dX5_isFirstTime_18 rfl ?_
  refine px_getI dX5_isFirstTime_19 fr_5_35 rfl (px_sh1 hw sh_16) ?_
  refine px_iconst dX5_isFirstTime_22 ic_1 ?_
  refine px_iload_n dX5_isFirstTime_23 rfl rfl ?_
  refine px_ishl dX5_isFirstTime_24 ?_
  refine px_ior dX5_isFirstTime_25 ?_
  refine px_putI dX5_isFirstTime_26 fl_5_35 (Or.inl rfl) rfl (px_sh1 hw sh_16) rfl rfl (by omega) ?_
  refine px_iload_n dX5_isFirstTime_29 rfl rfl ?_
  exact px_ireturn dX5_isFirstTime_30 rfl (px_nb (hb1)) k1
theorem dX5_readChain_0 : decode mX5_readChain.2.1 0 = .ok (.iload_n 1, 1) := by decide +kernel
theorem dX5_readChain_1 : decode mX5_readChain.2.1 1 = .ok (.iconst 4, 1) := by decide +kernel
theorem dX5_readChain_2 : decode mX5_readChain.2.1 2 = .ok (.if_icmp .le 9, 3) := by decide +kernel
theorem dX5_readChain_5 : decode mX5_readChain.2.1 5 = .ok (.aload_n 0, 1) := by decide +kernel
theorem dX5_readChain_6 : decode mX5_readChain.2.1 6 = .ok (.iload_n 2, 1) := by decide +kernel
theorem dX5_readChain_7 : decode mX5_readChain.2.1 7 = .ok (.invokevirtual 165, 3) := by decide +kernel
theorem dX5_readChain_10 : decode mX5_readChain.2.1 10 = .ok (.ireturn, 1) := by decide +kernel
theorem dX5_readChain_11 : decode mX5_readChain.2.1 11 = .ok (.iload_n 1, 1) := by decide +kernel
theorem dX5_readChain_12 : decode mX5_readChain.2.1 12 = .ok (.iconst 2, 1) := by decide +kernel
theorem dX5_readChain_13 : decode mX5_readChain.2.1 13 = .ok (.if_icmp .ne 21, 3) := by decide +kernel
theorem dX5_readChain_16 : decode mX5_readChain.2.1 16 = .ok (.aload_n 0, 1) := by decide +kernel
theorem dX5_readChain_17 : decode mX5_readChain.2.1 17 = .ok (.getfield 12, 3) := by decide +kernel
theorem dX5_readChain_20 : decode mX5_readChain.2.1 20 = .ok (.bipush 14, 2) := by decide +kernel
theorem dX5_readChain_22 : decode mX5_readChain.2.1 22 = .ok (.invokevirtual 107, 3) := by decide +kernel
theorem dX5_readChain_25 : decode mX5_readChain.2.1 25 = .ok (.ifCond .eq 9, 3) := by decide +kernel
theorem dX5_readChain_28 : decode mX5_readChain.2.1 28 = .ok (.aload_n 0, 1) := by decide +kernel
theorem dX5_readChain_29 : decode mX5_readChain.2.1 29 = .ok (.iload_n 2, 1) := by decide +kernel
theorem dX5_readChain_30 : decode mX5_readChain.2.1 30 = .ok (.invokevirtual 168, 3) := by decide +kernel
theorem dX5_readChain_33 : decode mX5_readChain.2.1 33 = .ok (.ireturn, 1) := by decide +kernel
theorem dX5_readChain_34 : decode mX5_readChain.2.1 34 = .ok (.aload_n 0, 1) := by decide +kernel
theorem dX5_readChain_35 : decode mX5_readChain.2.1 35 = .ok (.iload_n 1, 1) := by decide +kernel
theorem dX5_readChain_36 : decode mX5_readChain.2.1 36 = .ok (.iconst 1, 1) := by decide +kernel
theorem dX5_readChain_37 : decode mX5_readChain.2.1 37 = .ok (.iadd, 1) := by decide +kernel
theorem dX5_readChain_38 : decode mX5_readChain.2.1 38 = .ok (.iload_n 2, 1) := by decide +kernel
theorem dX5_readChain_39 : decode mX5_readChain.2.1 39 = .ok (.invokevirtual 161, 3) := by decide +kernel
theorem dX5_readChain_42 : decode mX5_readChain.2.1 42 = .ok (.istore_n 3, 1) := by decide +kernel
theorem dX5_readChain_43 : decode mX5_readChain.2.1 43 = .ok (.iconst 0, 1) := by decide +kernel
theorem dX5_readChain_44 : decode mX5_readChain.2.1 44 = .ok (.istore 4, 2) := by decide +kernel
theorem dX5_readChain_46 : decode mX5_readChain.2.1 46 = .ok (.iload_n 3, 1) := by decide +kernel
theorem dX5_readChain_47 : decode mX5_readChain.2.1 47 = .ok (.ifCond .eq 70, 3) := by decide +kernel
theorem dX5_readChain_50 : decode mX5_readChain.2.1 50 = .ok (.iload 4, 2) := by decide +kernel
theorem dX5_readChain_52 : decode mX5_readChain.2.1 52 = .ok (.bipush 30, 2) := by decide +kernel
theorem dX5_readChain_54 : decode mX5_readChain.2.1 54 = .ok (.if_icmp .ge 63, 3) := by decide +kernel
theorem dX5_readChain_57 : decode mX5_readChain.2.1 57 = .ok (.aload_n 0, 1) := by decide +kernel
theorem dX5_readChain_58 : decode mX5_readChain.2.1 58 = .ok (.iload_n 1, 1) := by decide +kernel
theorem dX5_readChain_59 : decode mX5_readChain.2.1 59 = .ok (.invokevirtual 171, 3) := by decide +kernel
theorem dX5_readChain_62 : decode mX5_readChain.2.1 62 = .ok (.istore 5, 2) := by decide +kernel
theorem dX5_readChain_64 : decode mX5_readChain.2.1 64 = .ok (.iload 5, 2) := by decide +kernel
theorem dX5_readChain_66 : decode mX5_readChain.2.1 66 = .ok (.bipush (-100), 2) := by decide +kernel
theorem dX5_readChain_68 : decode mX5_readChain.2.1 68 = .ok (.if_icmp .eq 13, 3) := by decide +kernel
theorem dX5_readChain_71 : decode mX5_readChain.2.1 71 = .ok (.iload_n 1, 1) := by decide +kernel
theorem dX5_readChain_72 : decode mX5_readChain.2.1 72 = .ok (.iconst 2, 1) := by decide +kernel
theorem dX5_readChain_73 : decode mX5_readChain.2.1 73 = .ok (.if_icmp .ne 10, 3) := by decide +kernel
theorem dX5_readChain_76 : decode mX5_readChain.2.1 76 = .ok (.iload 4, 2) := by decide +kernel
theorem dX5_readChain_78 : decode mX5_readChain.2.1 78 = .ok (.ifCond .le 5, 3) := by decide +kernel
theorem dX5_readChain_81 : decode mX5_readChain.2.1 81 = .ok (.iconst 1, 1) := by decide +kernel
theorem dX5_readChain_82 : decode mX5_readChain.2.1 82 = .ok (.ireturn, 1) := by decide +kernel
theorem dX5_readChain_83 : decode mX5_readChain.2.1 83 = .ok (.aload_n 0, 1) := by decide +kernel
theorem dX5_readChain_84 : decode mX5_readChain.2.1 84 = .ok (.getfield 12, 3) := by decide +kernel
theorem dX5_readChain_87 : decode mX5_readChain.2.1 87 = .ok (.invokevirtual 90, 3) := by decide +kernel
theorem dX5_readChain_90 : decode mX5_readChain.2.1 90 = .ok (.aload_n 0, 1) := by decide +kernel
theorem dX5_readChain_91 : decode mX5_readChain.2.1 91 = .ok (.iload_n 1, 1) := by decide +kernel
theorem dX5_readChain_92 : decode mX5_readChain.2.1 92 = .ok (.iconst 1, 1) := by decide +kernel
theorem dX5_readChain_93 : decode mX5_readChain.2.1 93 = .ok (.iadd, 1) := by decide +kernel
theorem dX5_readChain_94 : decode mX5_readChain.2.1 94 = .ok (.iload_n 2, 1) := by decide +kernel
theorem dX5_readChain_95 : decode mX5_readChain.2.1 95 = .ok (.invokevirtual 161, 3) := by decide +kernel
theorem dX5_readChain_98 : decode mX5_readChain.2.1 98 = .ok (.istore_n 3, 1) := by decide +kernel
theorem dX5_readChain_99 : decode mX5_readChain.2.1 99 = .ok (.aload_n 0, 1) := by decide +kernel
theorem dX5_readChain_100 : decode mX5_readChain.2.1 100 = .ok (.getfield 28, 3) := by decide +kernel
theorem dX5_readChain_103 : decode mX5_readChain.2.1 103 = .ok (.getfield 154, 3) := by decide +kernel
theorem dX5_readChain_106 : decode mX5_readChain.2.1 106 = .ok (.iload 5, 2) := by decide +kernel
theorem dX5_readChain_108 : decode mX5_readChain.2.1 108 = .ok (.invokevirtual 174, 3) := by decide +kernel
theorem dX5_readChain_111 : decode mX5_readChain.2.1 111 = .ok (.iinc 4 1, 3) := by decide +kernel
theorem dX5_readChain_114 : decode mX5_readChain.2.1 114 = .ok (.goto (-68), 3) := by decide +kernel
theorem dX5_readChain_117 : decode mX5_readChain.2.1 117 = .ok (.iload_n 3, 1) := by decide +kernel
theorem dX5_readChain_118 : decode mX5_readChain.2.1 118 = .ok (.ireturn, 1) := by decide +kernel
theorem bX5_readChain_0 {E : px_E} {d : Nat} {w : pw_W} {Q : Option Value → pw_W → Prop} {t : ct_T} (hw : w.1 = cs t) {x1 x2 : Int32} (ht2 : is_Hamlet t.2.1) 
    (k1 : x1 ≤ 4 → ¬ x1 = 2 → px_W E mX5_readChain (d + 2) 0 0 34 [.ref 16, .int x1, .int x2, .null, .null, .null] [] w Q)
    (k2 : x1 ≤ 4 → x1 = 2 → ¬ (pX6_isKeyword w 14) → px_W E mX5_readChain (d + 2) 0 0 34 [.ref 16, .int x1, .int x2, .null, .null, .null] [] w Q)
    (k3 : x1 ≤ 4 → x1 = 2 → (pX6_isKeyword w 14) → px_Call E (d + 1) 0 0 mX5_readNot [.ref 16, .int x2] w (fun v w' => px_W E mX5_readChain (d + 2) 0 0 33 [.null, .null, .null, .null, .null, .null] (v.toList ++ []) w' Q))
    (k4 : ¬ x1 ≤ 4 → px_Call E (d + 1) 0 0 mX5_readUnit [.ref 16, .int x2] w (fun v w' => px_W E mX5_readChain (d + 2) 0 0 10 [.null, .null, .null, .null, .null, .null] (v.toList ++ []) w' Q)) :
    px_W E mX5_readChain (d + 2) 0 0 0 [.ref 16, .int x1, .int x2, .null, .null, .null] [] w Q := by
  refine px_iload_n dX5_readChain_0 rfl rfl ?_
  refine px_iconst dX5_readChain_1 ic_4 ?_
  refine px_icmp_le (tgt := 11) dX5_readChain_2 (by decide) (fun h1 => ?_) (fun h1 => ?_)
  ·
    refine px_iload_n dX5_readChain_11 rfl rfl ?_
    refine px_iconst dX5_readChain_12 ic_2 ?_
    refine px_icmp_ne (tgt := 34) dX5_readChain_13 (by decide) (fun h2 => ?_) (fun h2 => ?_)
    ·
      exact (k1 h1 h2)
    ·
      refine px_aload_n dX5_readChain_16 rfl rfl ?_
      refine px_getR (v := 17) dX5_readChain_17 fr_5_12 rfl (px_sh1 hw sh_16) (px_rf hw rf_16_0) (by decide) ?_
      refine px_bipush dX5_readChain_20 bp_14 ?_
      refine px_callV (As := [.int 14]) (st := []) (rc := 0) (rs := 0) (mc := 0) (ms := 0) dX5_readChain_22 lk_5_107 (px_sh1 hw sh_17) rfl rfl (Nat.le_of_ble_eq_true rfl) (sX6_isKeyword (w := w) hw ?_)
      show px_W E mX5_readChain (d + 2) 0 0 25 [.ref 16, .int x1, .int x2, .null, .null, .null] [.int (jb (pX6_isKeyword w 14))] w Q
      refine px_jb_eq (tgt := 34) dX5_readChain_25 (by decide) (fun h3 => ?_) (fun h3 => ?_)
      ·
        exact (k2 h1 h2 h3)
      ·
        refine px_aload_n dX5_readChain_28 rfl rfl ?_
        refine px_iload_n dX5_readChain_29 rfl rfl ?_
        refine px_forget (ls' := [.null, .null, .null, .null, .null, .null]) ?_ ⟨Or.inl rfl, Or.inl rfl, Or.inl rfl, Or.inl rfl, Or.inl rfl, Or.inl rfl, trivial⟩
        exact px_callV (As := [.int x2]) (st := []) (rc := 0) (rs := 0) (mc := 0) (ms := 0) dX5_readChain_30 lk_5_168 (px_sh1 hw sh_16) rfl rfl (Nat.le_of_ble_eq_true rfl) (k3 h1 h2 h3)
  ·
    refine px_aload_n dX5_readChain_5 rfl rfl ?_
    refine px_iload_n dX5_readChain_6 rfl rfl ?_
    refine px_forget (ls' := [.null, .null, .null, .null, .null, .null]) ?_ ⟨Or.inl rfl, Or.inl rfl, Or.inl rfl, Or.inl rfl, Or.inl rfl, Or.inl rfl, trivial⟩
    exact px_callV (As := [.int x2]) (st := []) (rc := 0) (rs := 0) (mc := 0) (ms := 0) dX5_readChain_7 lk_5_165 (px_sh1 hw sh_16) rfl rfl (Nat.le_of_ble_eq_true rfl) (k4 h1)
theorem eX5_readChain {E : px_E} {d : Nat} {w : pw_W} {Q : Option Value → pw_W → Prop} {t : ct_T} (hw : w.1 = cs t) {x1 x2 : Int32} (ht2 : is_Hamlet t.2.1) 
    (k1 : x1 ≤ 4 → ¬ x1 = 2 → px_W E mX5_readChain (d + 2) 0 0 34 [.ref 16, .int x1, .int x2, .null, .null, .null] [] w Q)
    (k2 : x1 ≤ 4 → x1 = 2 → ¬ (pX6_isKeyword w 14) → px_W E mX5_readChain (d + 2) 0 0 34 [.ref 16, .int x1, .int x2, .null, .null, .null] [] w Q)
    (k3 : x1 ≤ 4 → x1 = 2 → (pX6_isKeyword w 14) → px_Call E (d + 1) 0 0 mX5_readNot [.ref 16, .int x2] w (fun v w' => px_W E mX5_readChain (d + 2) 0 0 33 [.null, .null, .null, .null, .null, .null] (v.toList ++ []) w' Q))
    (k4 : ¬ x1 ≤ 4 → px_Call E (d + 1) 0 0 mX5_readUnit [.ref 16, .int x2] w (fun v w' => px_W E mX5_readChain (d + 2) 0 0 10 [.null, .null, .null, .null, .null, .null] (v.toList ++ []) w' Q)) :
    px_Call E (d + 2) 0 0 mX5_readChain [.ref 16, .int x1, .int x2] w Q :=
  px_enter (k := 3) (by decide) (Nat.le_of_ble_eq_true rfl) rfl (px_forget (bX5_readChain_0 hw ht2 k1 k2 k3 k4) ⟨Or.inr rfl, Or.inr rfl, Or.inr rfl, Or.inl rfl, Or.inl rfl, Or.inl rfl, trivial⟩)
theorem bX5_readChain_10 {E : px_E} {d : Nat} {w : pw_W} {Q : Option Value → pw_W → Prop} {t : ct_T} (hw : w.1 = cs t) {y0 : Int32} (ht2 : is_Hamlet t.2.1) (hb1 : y0 = 0 ∨ y0 = 1)
    (k1 : Q (some (.int y0)) w) :
    px_W E mX5_readChain (d + 2) 0 0 10 [.null, .null, .null, .null, .null, .null] [.int y0] w Q := by
  exact px_ireturn dX5_readChain_10 rfl (px_nb (hb1)) k1
theorem bX5_readChain_33 {E : px_E} {d : Nat} {w : pw_W} {Q : Option Value → pw_W → Prop} {t : ct_T} (hw : w.1 = cs t) {y0 : Int32} (ht2 : is_Hamlet t.2.1) (hb1 : y0 = 0 ∨ y0 = 1)
    (k1 : Q (some (.int y0)) w) :
    px_W E mX5_readChain (d + 2) 0 0 33 [.null, .null, .null, .null, .null, .null] [.int y0] w Q := by
  exact px_ireturn dX5_readChain_33 rfl (px_nb (hb1)) k1
theorem bX5_readChain_34 {E : px_E} {d : Nat} {w : pw_W} {Q : Option Value → pw_W → Prop} {t : ct_T} (hw : w.1 = cs t) {x1 x2 : Int32} (ht2 : is_Hamlet t.2.1) 
    (k1 : px_Call E (d + 1) 0 0 mX5_readChain [.ref 16, .int (x1 + 1), .int x2] w (fun v w' => px_W E mX5_readChain (d + 2) 0 0 42 [.ref 16, .int x1, .int x2, .null, .null, .null] (v.toList ++ []) w' Q)) :
    px_W E mX5_readChain (d + 2) 0 0 34 [.ref 16, .int x1, .int x2, .null, .null, .null] [] w Q := by
  refine px_aload_n dX5_readChain_34 rfl rfl ?_
  refine px_iload_n dX5_readChain_35 rfl rfl ?_
  refine px_iconst dX5_readChain_36 ic_1 ?_
  refine px_iadd dX5_readChain_37 ?_
  refine px_iload_n dX5_readChain_38 rfl rfl ?_
  exact px_callV (As := [.int (x1 + 1), .int x2]) (st := []) (rc := 0) (rs := 0) (mc := 0) (ms := 0) dX5_readChain_39 lk_5_161 (px_sh1 hw sh_16) rfl rfl (Nat.le_of_ble_eq_true rfl) k1
theorem bX5_readChain_42 {E : px_E} {d : Nat} {w : pw_W} {Q : Option Value → pw_W → Prop} {t : ct_T} (hw : w.1 = cs t) {x1 x2 y0 : Int32} (ht2 : is_Hamlet t.2.1) 
    (k1 : px_W E mX5_readChain (d + 2) 0 0 46 [.ref 16, .int x1, .int x2, .int y0, .int 0, .null] [] w Q) :
    px_W E mX5_readChain (d + 2) 0 0 42 [.ref 16, .int x1, .int x2, .null, .null, .null] [.int y0] w Q := by
  refine px_istore_n (ls' := [.ref 16, .int x1, .int x2, .int y0, .null, .null]) dX5_readChain_42 rfl ⟨by decide, rfl⟩ rfl ?_
  refine px_iconst dX5_readChain_43 ic_0 ?_
  refine px_istore (ls' := [.ref 16, .int x1, .int x2, .int y0, .int 0, .null]) dX5_readChain_44 ⟨by decide, rfl⟩ rfl ?_
  exact k1
theorem bX5_readChain_46 {E : px_E} {d : Nat} {w : pw_W} {Q : Option Value → pw_W → Prop} {t : ct_T} (hw : w.1 = cs t) {x1 x2 x3 x4 : Int32} (ht2 : is_Hamlet t.2.1) 
    (k1 : x3 = 0 → px_W E mX5_readChain (d + 2) 0 0 117 [.null, .null, .null, .int x3, .null, .null] [] w Q)
    (k2 : ¬ x3 = 0 → 30 ≤ x4 → px_W E mX5_readChain (d + 2) 0 0 117 [.null, .null, .null, .int x3, .null, .null] [] w Q)
    (k3 : ¬ x3 = 0 → ¬ 30 ≤ x4 → (hX5_operatorAt w x1) = (-100) → px_W E mX5_readChain (d + 2) 0 0 81 [.null, .null, .null, .null, .null, .null] [] w Q)
    (k4 : ¬ x3 = 0 → ¬ 30 ≤ x4 → ¬ (hX5_operatorAt w x1) = (-100) → ¬ x1 = 2 → px_W E mX5_readChain (d + 2) 0 0 83 [.ref 16, .int x1, .int x2, .null, .int x4, .int (hX5_operatorAt w x1)] [] w Q)
    (k5 : ¬ x3 = 0 → ¬ 30 ≤ x4 → ¬ (hX5_operatorAt w x1) = (-100) → x1 = 2 → x4 ≤ 0 → px_W E mX5_readChain (d + 2) 0 0 83 [.ref 16, .int x1, .int x2, .null, .int x4, .int (hX5_operatorAt w x1)] [] w Q)
    (k6 : ¬ x3 = 0 → ¬ 30 ≤ x4 → ¬ (hX5_operatorAt w x1) = (-100) → x1 = 2 → ¬ x4 ≤ 0 → px_W E mX5_readChain (d + 2) 0 0 81 [.null, .null, .null, .null, .null, .null] [] w Q) :
    px_W E mX5_readChain (d + 2) 0 0 46 [.ref 16, .int x1, .int x2, .int x3, .int x4, .null] [] w Q := by
  refine px_iload_n dX5_readChain_46 rfl rfl ?_
  refine px_if_eq (tgt := 117) dX5_readChain_47 (by decide) (fun h1 => ?_) (fun h1 => ?_)
  ·
    exact px_forget (k1 h1) ⟨Or.inl rfl, Or.inl rfl, Or.inl rfl, Or.inr rfl, Or.inl rfl, Or.inl rfl, trivial⟩
  ·
    refine px_iload dX5_readChain_50 rfl ?_
    refine px_bipush dX5_readChain_52 bp_30 ?_
    refine px_icmp_ge (tgt := 117) dX5_readChain_54 (by decide) (fun h2 => ?_) (fun h2 => ?_)
    ·
      exact px_forget (k2 h1 h2) ⟨Or.inl rfl, Or.inl rfl, Or.inl rfl, Or.inr rfl, Or.inl rfl, Or.inl rfl, trivial⟩
    ·
      refine px_aload_n dX5_readChain_57 rfl rfl ?_
      refine px_iload_n dX5_readChain_58 rfl rfl ?_
      refine px_forget (ls' := [.ref 16, .int x1, .int x2, .null, .int x4, .null]) ?_ ⟨Or.inr rfl, Or.inr rfl, Or.inr rfl, Or.inl rfl, Or.inr rfl, Or.inl rfl, trivial⟩
      refine px_callV (As := [.int x1]) (st := []) (rc := 0) (rs := 0) (mc := 0) (ms := 0) dX5_readChain_59 lk_5_171 (px_sh1 hw sh_16) rfl rfl (Nat.le_of_ble_eq_true rfl) (sX5_operatorAt (w := w) hw ?_)
      show px_W E mX5_readChain (d + 2) 0 0 62 [.ref 16, .int x1, .int x2, .null, .int x4, .null] [.int (hX5_operatorAt w x1)] w Q
      refine px_istore (ls' := [.ref 16, .int x1, .int x2, .null, .int x4, .int (hX5_operatorAt w x1)]) dX5_readChain_62 ⟨by decide, rfl⟩ rfl ?_
      refine px_iload dX5_readChain_64 rfl ?_
      refine px_bipush dX5_readChain_66 bp_m100 ?_
      refine px_icmp_eq (tgt := 81) dX5_readChain_68 (by decide) (fun h3 => ?_) (fun h3 => ?_)
      ·
        exact px_forget (k3 h1 h2 h3) ⟨Or.inl rfl, Or.inl rfl, Or.inl rfl, Or.inl rfl, Or.inl rfl, Or.inl rfl, trivial⟩
      ·
        refine px_iload_n dX5_readChain_71 rfl rfl ?_
        refine px_iconst dX5_readChain_72 ic_2 ?_
        refine px_icmp_ne (tgt := 83) dX5_readChain_73 (by decide) (fun h4 => ?_) (fun h4 => ?_)
        ·
          exact (k4 h1 h2 h3 h4)
        ·
          refine px_iload dX5_readChain_76 rfl ?_
          refine px_if_le (tgt := 83) dX5_readChain_78 (by decide) (fun h5 => ?_) (fun h5 => ?_)
          ·
            exact (k5 h1 h2 h3 h4 h5)
          ·
            exact px_forget (k6 h1 h2 h3 h4 h5) ⟨Or.inl rfl, Or.inl rfl, Or.inl rfl, Or.inl rfl, Or.inl rfl, Or.inl rfl, trivial⟩
theorem bX5_readChain_81 {E : px_E} {d : Nat} {w : pw_W} {Q : Option Value → pw_W → Prop} {t : ct_T} (hw : w.1 = cs t) (ht2 : is_Hamlet t.2.1) 
    (k1 : Q (some (.int 1)) w) :
    px_W E mX5_readChain (d + 2) 0 0 81 [.null, .null, .null, .null, .null, .null] [] w Q := by
  refine px_iconst dX5_readChain_81 ic_1 ?_
  exact px_ireturn dX5_readChain_82 rfl (by decide) k1
theorem bX5_readChain_83 {E : px_E} {d : Nat} {w : pw_W} {Q : Option Value → pw_W → Prop} {t : ct_T} (hw : w.1 = cs t) {x1 x2 x4 x5 : Int32} (ht2 : is_Hamlet t.2.1) 
    (k1 : px_Call E (d + 1) 0 0 mX6_advance [.ref 17] w (fun v w' => px_W E mX5_readChain (d + 2) 0 0 90 [.ref 16, .int x1, .int x2, .null, .int x4, .int x5] (v.toList ++ []) w' Q)) :
    px_W E mX5_readChain (d + 2) 0 0 83 [.ref 16, .int x1, .int x2, .null, .int x4, .int x5] [] w Q := by
  refine px_aload_n dX5_readChain_83 rfl rfl ?_
  refine px_getR (v := 17) dX5_readChain_84 fr_5_12 rfl (px_sh1 hw sh_16) (px_rf hw rf_16_0) (by decide) ?_
  exact px_callV (As := []) (st := []) (rc := 0) (rs := 0) (mc := 0) (ms := 0) dX5_readChain_87 lk_5_90 (px_sh1 hw sh_17) rfl rfl (Nat.le_of_ble_eq_true rfl) k1
theorem bX5_readChain_90 {E : px_E} {d : Nat} {w : pw_W} {Q : Option Value → pw_W → Prop} {t : ct_T} (hw : w.1 = cs t) {x1 x2 x4 x5 : Int32} (ht2 : is_Hamlet t.2.1) 
    (k1 : px_Call E (d + 1) 0 0 mX5_readChain [.ref 16, .int (x1 + 1), .int x2] w (fun v w' => px_W E mX5_readChain (d + 2) 0 0 98 [.ref 16, .int x1, .int x2, .null, .int x4, .int x5] (v.toList ++ []) w' Q)) :
    px_W E mX5_readChain (d + 2) 0 0 90 [.ref 16, .int x1, .int x2, .null, .int x4, .int x5] [] w Q := by
  refine px_aload_n dX5_readChain_90 rfl rfl ?_
  refine px_iload_n dX5_readChain_91 rfl rfl ?_
  refine px_iconst dX5_readChain_92 ic_1 ?_
  refine px_iadd dX5_readChain_93 ?_
  refine px_iload_n dX5_readChain_94 rfl rfl ?_
  exact px_callV (As := [.int (x1 + 1), .int x2]) (st := []) (rc := 0) (rs := 0) (mc := 0) (ms := 0) dX5_readChain_95 lk_5_161 (px_sh1 hw sh_16) rfl rfl (Nat.le_of_ble_eq_true rfl) k1
theorem bX5_readChain_98 {E : px_E} {d : Nat} {w : pw_W} {Q : Option Value → pw_W → Prop} {t : ct_T} (hw : w.1 = cs t) {x1 x2 x4 x5 y0 : Int32} (ht2 : is_Hamlet t.2.1) 
    (k1 : px_Call E (d + 1) 0 0 mX1_add [.ref (t.2.1 + 10), .int x5] w (fun v w' => px_W E mX5_readChain (d + 2) 0 0 111 [.ref 16, .int x1, .int x2, .int y0, .int x4, .null] (v.toList ++ []) w' Q)) :
    px_W E mX5_readChain (d + 2) 0 0 98 [.ref 16, .int x1, .int x2, .null, .int x4, .int x5] [.int y0] w Q := by
  refine px_istore_n (ls' := [.ref 16, .int x1, .int x2, .int y0, .int x4, .int x5]) dX5_readChain_98 rfl ⟨by decide, rfl⟩ rfl ?_
  refine px_aload_n dX5_readChain_99 rfl rfl ?_
  refine px_getR (v := t.2.1) dX5_readChain_100 fr_5_28 rfl (px_sh1 hw sh_16) (px_rf hw rf_16_3) ht2.ne ?_
  refine px_getR (v := (t.2.1 + 10)) dX5_readChain_103 fr_5_154 rfl (px_sh1 hw ht2.sh) (px_rf hw ht2.rf15) (Nat.succ_ne_zero _) ?_
  refine px_iload dX5_readChain_106 rfl ?_
  refine px_forget (ls' := [.ref 16, .int x1, .int x2, .int y0, .int x4, .null]) ?_ ⟨Or.inr rfl, Or.inr rfl, Or.inr rfl, Or.inr rfl, Or.inr rfl, Or.inl rfl, trivial⟩
  exact px_callV (As := [.int x5]) (st := []) (rc := 0) (rs := 0) (mc := 0) (ms := 0) dX5_readChain_108 lk_5_174 (px_sh1 hw ht2.is10.sh) rfl rfl (Nat.le_of_ble_eq_true rfl) k1
theorem bX5_readChain_111 {E : px_E} {d : Nat} {w : pw_W} {Q : Option Value → pw_W → Prop} {t : ct_T} (hw : w.1 = cs t) {x1 x2 x3 x4 : Int32} (ht2 : is_Hamlet t.2.1) 
    (k1 : px_W E mX5_readChain (d + 2) 0 0 46 [.ref 16, .int x1, .int x2, .int x3, .int (x4 + 1), .null] [] w Q) :
    px_W E mX5_readChain (d + 2) 0 0 111 [.ref 16, .int x1, .int x2, .int x3, .int x4, .null] [] w Q := by
  refine px_iinc (ls' := [.ref 16, .int x1, .int x2, .int x3, .int (x4 + 1), .null]) dX5_readChain_111 ⟨by decide, rfl⟩ rfl rfl rfl ?_
  refine px_goto (tgt := 46) dX5_readChain_114 (by decide) ?_
  exact k1
theorem bX5_readChain_117 {E : px_E} {d : Nat} {w : pw_W} {Q : Option Value → pw_W → Prop} {t : ct_T} (hw : w.1 = cs t) {x3 : Int32} (ht2 : is_Hamlet t.2.1) (hb1 : x3 = 0 ∨ x3 = 1)
    (k1 : Q (some (.int x3)) w) :
    px_W E mX5_readChain (d + 2) 0 0 117 [.null, .null, .null, .int x3, .null, .null] [] w Q := by
  refine px_iload_n dX5_readChain_117 rfl rfl ?_
  exact px_ireturn dX5_readChain_118 rfl (px_nb (hb1)) k1
theorem dX5_readNot_0 : decode mX5_readNot.2.1 0 = .ok (.iload_n 1, 1) := by decide +kernel
theorem dX5_readNot_1 : decode mX5_readNot.2.1 1 = .ok (.bipush 7, 2) := by decide +kernel
theorem dX5_readNot_3 : decode mX5_readNot.2.1 3 = .ok (.if_icmp .lt 8, 3) := by decide +kernel
theorem dX5_readNot_6 : decode mX5_readNot.2.1 6 = .ok (.aload_n 0, 1) := by decide +kernel
theorem dX5_readNot_7 : decode mX5_readNot.2.1 7 = .ok (.invokevirtual 56, 3) := by decide +kernel
theorem dX5_readNot_10 : decode mX5_readNot.2.1 10 = .ok (.ireturn, 1) := by decide +kernel
theorem dX5_readNot_11 : decode mX5_readNot.2.1 11 = .ok (.aload_n 0, 1) := by decide +kernel
theorem dX5_readNot_12 : decode mX5_readNot.2.1 12 = .ok (.getfield 12, 3) := by decide +kernel
theorem dX5_readNot_15 : decode mX5_readNot.2.1 15 = .ok (.invokevirtual 90, 3) := by decide +kernel
theorem dX5_readNot_18 : decode mX5_readNot.2.1 18 = .ok (.aload_n 0, 1) := by decide +kernel
theorem dX5_readNot_19 : decode mX5_readNot.2.1 19 = .ok (.iconst 2, 1) := by decide +kernel
theorem dX5_readNot_20 : decode mX5_readNot.2.1 20 = .ok (.iload_n 1, 1) := by decide +kernel
theorem dX5_readNot_21 : decode mX5_readNot.2.1 21 = .ok (.iconst 1, 1) := by decide +kernel
theorem dX5_readNot_22 : decode mX5_readNot.2.1 22 = .ok (.iadd, 1) := by decide +kernel
theorem dX5_readNot_23 : decode mX5_readNot.2.1 23 = .ok (.invokevirtual 161, 3) := by decide +kernel
theorem dX5_readNot_26 : decode mX5_readNot.2.1 26 = .ok (.istore_n 2, 1) := by decide +kernel
theorem dX5_readNot_27 : decode mX5_readNot.2.1 27 = .ok (.aload_n 0, 1) := by decide +kernel
theorem dX5_readNot_28 : decode mX5_readNot.2.1 28 = .ok (.getfield 28, 3) := by decide +kernel
theorem dX5_readNot_31 : decode mX5_readNot.2.1 31 = .ok (.getfield 154, 3) := by decide +kernel
theorem dX5_readNot_34 : decode mX5_readNot.2.1 34 = .ok (.bipush (-6), 2) := by decide +kernel
theorem dX5_readNot_36 : decode mX5_readNot.2.1 36 = .ok (.invokevirtual 174, 3) := by decide +kernel
theorem dX5_readNot_39 : decode mX5_readNot.2.1 39 = .ok (.iload_n 2, 1) := by decide +kernel
theorem dX5_readNot_40 : decode mX5_readNot.2.1 40 = .ok (.ireturn, 1) := by decide +kernel
theorem bX5_readNot_0 {E : px_E} {d : Nat} {w : pw_W} {Q : Option Value → pw_W → Prop} {t : ct_T} (hw : w.1 = cs t) {x1 : Int32} (ht2 : is_Hamlet t.2.1) 
    (k1 : x1 < 7 → px_Call E d 0 0 mX6_advance [.ref 17] w (fun v w' => px_W E mX5_readNot (d + 1) 0 0 18 [.ref 16, .int x1, .null] (v.toList ++ []) w' Q))
    (k2 : ¬ x1 < 7 → px_Call E d 0 0 mX5_refuse [.ref 16] w (fun v w' => px_W E mX5_readNot (d + 1) 0 0 10 [.null, .null, .null] (v.toList ++ []) w' Q)) :
    px_W E mX5_readNot (d + 1) 0 0 0 [.ref 16, .int x1, .null] [] w Q := by
  refine px_iload_n dX5_readNot_0 rfl rfl ?_
  refine px_bipush dX5_readNot_1 bp_7 ?_
  refine px_icmp_lt (tgt := 11) dX5_readNot_3 (by decide) (fun h1 => ?_) (fun h1 => ?_)
  ·
    refine px_aload_n dX5_readNot_11 rfl rfl ?_
    refine px_getR (v := 17) dX5_readNot_12 fr_5_12 rfl (px_sh1 hw sh_16) (px_rf hw rf_16_0) (by decide) ?_
    exact px_callV (As := []) (st := []) (rc := 0) (rs := 0) (mc := 0) (ms := 0) dX5_readNot_15 lk_5_90 (px_sh1 hw sh_17) rfl rfl (Nat.le_of_ble_eq_true rfl) (k1 h1)
  ·
    refine px_aload_n dX5_readNot_6 rfl rfl ?_
    refine px_forget (ls' := [.null, .null, .null]) ?_ ⟨Or.inl rfl, Or.inl rfl, Or.inl rfl, trivial⟩
    exact px_callV (As := []) (st := []) (rc := 0) (rs := 0) (mc := 0) (ms := 0) dX5_readNot_7 lk_5_56 (px_sh1 hw sh_16) rfl rfl (Nat.le_of_ble_eq_true rfl) (k2 h1)
theorem eX5_readNot {E : px_E} {d : Nat} {w : pw_W} {Q : Option Value → pw_W → Prop} {t : ct_T} (hw : w.1 = cs t) {x1 : Int32} (ht2 : is_Hamlet t.2.1) 
    (k1 : x1 < 7 → px_Call E d 0 0 mX6_advance [.ref 17] w (fun v w' => px_W E mX5_readNot (d + 1) 0 0 18 [.ref 16, .int x1, .null] (v.toList ++ []) w' Q))
    (k2 : ¬ x1 < 7 → px_Call E d 0 0 mX5_refuse [.ref 16] w (fun v w' => px_W E mX5_readNot (d + 1) 0 0 10 [.null, .null, .null] (v.toList ++ []) w' Q)) :
    px_Call E (d + 1) 0 0 mX5_readNot [.ref 16, .int x1] w Q :=
  px_enter (k := 1) (by decide) (Nat.le_of_ble_eq_true rfl) rfl (px_forget (bX5_readNot_0 hw ht2 k1 k2) ⟨Or.inr rfl, Or.inr rfl, Or.inl rfl, trivial⟩)
theorem bX5_readNot_10 {E : px_E} {d : Nat} {w : pw_W} {Q : Option Value → pw_W → Prop} {t : ct_T} (hw : w.1 = cs t) {y0 : Int32} (ht2 : is_Hamlet t.2.1) (hb1 : y0 = 0 ∨ y0 = 1)
    (k1 : Q (some (.int y0)) w) :
    px_W E mX5_readNot (d + 1) 0 0 10 [.null, .null, .null] [.int y0] w Q := by
  exact px_ireturn dX5_readNot_10 rfl (px_nb (hb1)) k1
theorem bX5_readNot_18 {E : px_E} {d : Nat} {w : pw_W} {Q : Option Value → pw_W → Prop} {t : ct_T} (hw : w.1 = cs t) {x1 : Int32} (ht2 : is_Hamlet t.2.1) 
    (k1 : px_Call E d 0 0 mX5_readChain [.ref 16, .int 2, .int (x1 + 1)] w (fun v w' => px_W E mX5_readNot (d + 1) 0 0 26 [.ref 16, .null, .null] (v.toList ++ []) w' Q)) :
    px_W E mX5_readNot (d + 1) 0 0 18 [.ref 16, .int x1, .null] [] w Q := by
  refine px_aload_n dX5_readNot_18 rfl rfl ?_
  refine px_iconst dX5_readNot_19 ic_2 ?_
  refine px_iload_n dX5_readNot_20 rfl rfl ?_
  refine px_iconst dX5_readNot_21 ic_1 ?_
  refine px_iadd dX5_readNot_22 ?_
  refine px_forget (ls' := [.ref 16, .null, .null]) ?_ ⟨Or.inr rfl, Or.inl rfl, Or.inl rfl, trivial⟩
  exact px_callV (As := [.int 2, .int (x1 + 1)]) (st := []) (rc := 0) (rs := 0) (mc := 0) (ms := 0) dX5_readNot_23 lk_5_161 (px_sh1 hw sh_16) rfl rfl (Nat.le_of_ble_eq_true rfl) k1
theorem bX5_readNot_26 {E : px_E} {d : Nat} {w : pw_W} {Q : Option Value → pw_W → Prop} {t : ct_T} (hw : w.1 = cs t) {y0 : Int32} (ht2 : is_Hamlet t.2.1) 
    (k1 : px_Call E d 0 0 mX1_add [.ref (t.2.1 + 10), .int (-6)] w (fun v w' => px_W E mX5_readNot (d + 1) 0 0 39 [.null, .null, .int y0] (v.toList ++ []) w' Q)) :
    px_W E mX5_readNot (d + 1) 0 0 26 [.ref 16, .null, .null] [.int y0] w Q := by
  refine px_istore_n (ls' := [.ref 16, .null, .int y0]) dX5_readNot_26 rfl ⟨by decide, rfl⟩ rfl ?_
  refine px_aload_n dX5_readNot_27 rfl rfl ?_
  refine px_getR (v := t.2.1) dX5_readNot_28 fr_5_28 rfl (px_sh1 hw sh_16) (px_rf hw rf_16_3) ht2.ne ?_
  refine px_getR (v := (t.2.1 + 10)) dX5_readNot_31 fr_5_154 rfl (px_sh1 hw ht2.sh) (px_rf hw ht2.rf15) (Nat.succ_ne_zero _) ?_
  refine px_bipush dX5_readNot_34 bp_m6 ?_
  refine px_forget (ls' := [.null, .null, .int y0]) ?_ ⟨Or.inl rfl, Or.inl rfl, Or.inr rfl, trivial⟩
  exact px_callV (As := [.int (-6)]) (st := []) (rc := 0) (rs := 0) (mc := 0) (ms := 0) dX5_readNot_36 lk_5_174 (px_sh1 hw ht2.is10.sh) rfl rfl (Nat.le_of_ble_eq_true rfl) k1
theorem bX5_readNot_39 {E : px_E} {d : Nat} {w : pw_W} {Q : Option Value → pw_W → Prop} {t : ct_T} (hw : w.1 = cs t) {x2 : Int32} (ht2 : is_Hamlet t.2.1) (hb1 : x2 = 0 ∨ x2 = 1)
    (k1 : Q (some (.int x2)) w) :
    px_W E mX5_readNot (d + 1) 0 0 39 [.null, .null, .int x2] [] w Q := by
  refine px_iload_n dX5_readNot_39 rfl rfl ?_
  exact px_ireturn dX5_readNot_40 rfl (px_nb (hb1)) k1
theorem dX5_readUnit_0 : decode mX5_readUnit.2.1 0 = .ok (.aload_n 0, 1) := by decide +kernel
theorem dX5_readUnit_1 : decode mX5_readUnit.2.1 1 = .ok (.getfield 12, 3) := by decide +kernel
theorem dX5_readUnit_4 : decode mX5_readUnit.2.1 4 = .ok (.bipush 40, 2) := by decide +kernel
theorem dX5_readUnit_6 : decode mX5_readUnit.2.1 6 = .ok (.invokevirtual 178, 3) := by decide +kernel
theorem dX5_readUnit_9 : decode mX5_readUnit.2.1 9 = .ok (.istore_n 2, 1) := by decide +kernel
theorem dX5_readUnit_10 : decode mX5_readUnit.2.1 10 = .ok (.aload_n 0, 1) := by decide +kernel
theorem dX5_readUnit_11 : decode mX5_readUnit.2.1 11 = .ok (.invokevirtual 182, 3) := by decide +kernel
theorem dX5_readUnit_14 : decode mX5_readUnit.2.1 14 = .ok (.istore_n 3, 1) := by decide +kernel
theorem dX5_readUnit_15 : decode mX5_readUnit.2.1 15 = .ok (.iload_n 2, 1) := by decide +kernel
theorem dX5_readUnit_16 : decode mX5_readUnit.2.1 16 = .ok (.ifCond .ne 14, 3) := by decide +kernel
theorem dX5_readUnit_19 : decode mX5_readUnit.2.1 19 = .ok (.iload_n 3, 1) := by decide +kernel
theorem dX5_readUnit_20 : decode mX5_readUnit.2.1 20 = .ok (.bipush (-100), 2) := by decide +kernel
theorem dX5_readUnit_22 : decode mX5_readUnit.2.1 22 = .ok (.if_icmp .ne 8, 3) := by decide +kernel
theorem dX5_readUnit_25 : decode mX5_readUnit.2.1 25 = .ok (.aload_n 0, 1) := by decide +kernel
theorem dX5_readUnit_26 : decode mX5_readUnit.2.1 26 = .ok (.invokevirtual 56, 3) := by decide +kernel
theorem dX5_readUnit_29 : decode mX5_readUnit.2.1 29 = .ok (.ireturn, 1) := by decide +kernel
theorem dX5_readUnit_30 : decode mX5_readUnit.2.1 30 = .ok (.aload_n 0, 1) := by decide +kernel
theorem dX5_readUnit_31 : decode mX5_readUnit.2.1 31 = .ok (.getfield 28, 3) := by decide +kernel
theorem dX5_readUnit_34 : decode mX5_readUnit.2.1 34 = .ok (.getfield 154, 3) := by decide +kernel
theorem dX5_readUnit_37 : decode mX5_readUnit.2.1 37 = .ok (.getfield 186, 3) := by decide +kernel
theorem dX5_readUnit_40 : decode mX5_readUnit.2.1 40 = .ok (.bipush 30, 2) := by decide +kernel
theorem dX5_readUnit_42 : decode mX5_readUnit.2.1 42 = .ok (.if_icmp .ge 13, 3) := by decide +kernel
theorem dX5_readUnit_45 : decode mX5_readUnit.2.1 45 = .ok (.iload_n 2, 1) := by decide +kernel
theorem dX5_readUnit_46 : decode mX5_readUnit.2.1 46 = .ok (.ifCond .eq 14, 3) := by decide +kernel
theorem dX5_readUnit_49 : decode mX5_readUnit.2.1 49 = .ok (.iload_n 1, 1) := by decide +kernel
theorem dX5_readUnit_50 : decode mX5_readUnit.2.1 50 = .ok (.bipush 7, 2) := by decide +kernel
theorem dX5_readUnit_52 : decode mX5_readUnit.2.1 52 = .ok (.if_icmp .lt 8, 3) := by decide +kernel
theorem dX5_readUnit_55 : decode mX5_readUnit.2.1 55 = .ok (.aload_n 0, 1) := by decide +kernel
theorem dX5_readUnit_56 : decode mX5_readUnit.2.1 56 = .ok (.invokevirtual 56, 3) := by decide +kernel
theorem dX5_readUnit_59 : decode mX5_readUnit.2.1 59 = .ok (.ireturn, 1) := by decide +kernel
theorem dX5_readUnit_60 : decode mX5_readUnit.2.1 60 = .ok (.aload_n 0, 1) := by decide +kernel
theorem dX5_readUnit_61 : decode mX5_readUnit.2.1 61 = .ok (.getfield 28, 3) := by decide +kernel
theorem dX5_readUnit_64 : decode mX5_readUnit.2.1 64 = .ok (.getfield 154, 3) := by decide +kernel
theorem dX5_readUnit_67 : decode mX5_readUnit.2.1 67 = .ok (.dup, 1) := by decide +kernel
theorem dX5_readUnit_68 : decode mX5_readUnit.2.1 68 = .ok (.getfield 186, 3) := by decide +kernel
theorem dX5_readUnit_71 : decode mX5_readUnit.2.1 71 = .ok (.iconst 1, 1) := by decide +kernel
theorem dX5_readUnit_72 : decode mX5_readUnit.2.1 72 = .ok (.iadd, 1) := by decide +kernel
theorem dX5_readUnit_73 : decode mX5_readUnit.2.1 73 = .ok (.putfield 186, 3) := by decide +kernel
theorem dX5_readUnit_76 : decode mX5_readUnit.2.1 76 = .ok (.aload_n 0, 1) := by decide +kernel
theorem dX5_readUnit_77 : decode mX5_readUnit.2.1 77 = .ok (.getfield 12, 3) := by decide +kernel
theorem dX5_readUnit_80 : decode mX5_readUnit.2.1 80 = .ok (.invokevirtual 90, 3) := by decide +kernel
theorem dX5_readUnit_83 : decode mX5_readUnit.2.1 83 = .ok (.iload_n 2, 1) := by decide +kernel
theorem dX5_readUnit_84 : decode mX5_readUnit.2.1 84 = .ok (.ifCond .ne 16, 3) := by decide +kernel
theorem dX5_readUnit_87 : decode mX5_readUnit.2.1 87 = .ok (.aload_n 0, 1) := by decide +kernel
theorem dX5_readUnit_88 : decode mX5_readUnit.2.1 88 = .ok (.getfield 28, 3) := by decide +kernel
theorem dX5_readUnit_91 : decode mX5_readUnit.2.1 91 = .ok (.getfield 154, 3) := by decide +kernel
theorem dX5_readUnit_94 : decode mX5_readUnit.2.1 94 = .ok (.iload_n 3, 1) := by decide +kernel
theorem dX5_readUnit_95 : decode mX5_readUnit.2.1 95 = .ok (.invokevirtual 174, 3) := by decide +kernel
theorem dX5_readUnit_98 : decode mX5_readUnit.2.1 98 = .ok (.iconst 1, 1) := by decide +kernel
theorem dX5_readUnit_99 : decode mX5_readUnit.2.1 99 = .ok (.ireturn, 1) := by decide +kernel
theorem dX5_readUnit_100 : decode mX5_readUnit.2.1 100 = .ok (.aload_n 0, 1) := by decide +kernel
theorem dX5_readUnit_101 : decode mX5_readUnit.2.1 101 = .ok (.iconst 0, 1) := by decide +kernel
theorem dX5_readUnit_102 : decode mX5_readUnit.2.1 102 = .ok (.iload_n 1, 1) := by decide +kernel
theorem dX5_readUnit_103 : decode mX5_readUnit.2.1 103 = .ok (.iconst 1, 1) := by decide +kernel
theorem dX5_readUnit_104 : decode mX5_readUnit.2.1 104 = .ok (.iadd, 1) := by decide +kernel
theorem dX5_readUnit_105 : decode mX5_readUnit.2.1 105 = .ok (.invokevirtual 161, 3) := by decide +kernel
theorem dX5_readUnit_108 : decode mX5_readUnit.2.1 108 = .ok (.ifCond .ne 5, 3) := by decide +kernel
theorem dX5_readUnit_111 : decode mX5_readUnit.2.1 111 = .ok (.iconst 0, 1) := by decide +kernel
theorem dX5_readUnit_112 : decode mX5_readUnit.2.1 112 = .ok (.ireturn, 1) := by decide +kernel
theorem dX5_readUnit_113 : decode mX5_readUnit.2.1 113 = .ok (.aload_n 0, 1) := by decide +kernel
theorem dX5_readUnit_114 : decode mX5_readUnit.2.1 114 = .ok (.getfield 12, 3) := by decide +kernel
theorem dX5_readUnit_117 : decode mX5_readUnit.2.1 117 = .ok (.bipush 41, 2) := by decide +kernel
theorem dX5_readUnit_119 : decode mX5_readUnit.2.1 119 = .ok (.invokevirtual 178, 3) := by decide +kernel
theorem dX5_readUnit_122 : decode mX5_readUnit.2.1 122 = .ok (.ifCond .ne 8, 3) := by decide +kernel
theorem dX5_readUnit_125 : decode mX5_readUnit.2.1 125 = .ok (.aload_n 0, 1) := by decide +kernel
theorem dX5_readUnit_126 : decode mX5_readUnit.2.1 126 = .ok (.invokevirtual 56, 3) := by decide +kernel
theorem dX5_readUnit_129 : decode mX5_readUnit.2.1 129 = .ok (.ireturn, 1) := by decide +kernel
theorem dX5_readUnit_130 : decode mX5_readUnit.2.1 130 = .ok (.aload_n 0, 1) := by decide +kernel
theorem dX5_readUnit_131 : decode mX5_readUnit.2.1 131 = .ok (.getfield 12, 3) := by decide +kernel
theorem dX5_readUnit_134 : decode mX5_readUnit.2.1 134 = .ok (.invokevirtual 90, 3) := by decide +kernel
theorem dX5_readUnit_137 : decode mX5_readUnit.2.1 137 = .ok (.iconst 1, 1) := by decide +kernel
theorem dX5_readUnit_138 : decode mX5_readUnit.2.1 138 = .ok (.ireturn, 1) := by decide +kernel
theorem bX5_readUnit_0 {E : px_E} {d : Nat} {w : pw_W} {Q : Option Value → pw_W → Prop} {t : ct_T} (hw : w.1 = cs t) {x1 : Int32} (ht2 : is_Hamlet t.2.1) 
    (k1 : (pX6_isSign w 40) → px_W E mX5_readUnit (d + 2) 0 0 30 [.ref 16, .int x1, .int (jb (pX6_isSign w 40)), .int (hX5_unitAt w)] [] w Q)
    (k2 : ¬ (pX6_isSign w 40) → ¬ (hX5_unitAt w) = (-100) → px_W E mX5_readUnit (d + 2) 0 0 30 [.ref 16, .int x1, .int (jb (pX6_isSign w 40)), .int (hX5_unitAt w)] [] w Q)
    (k3 : ¬ (pX6_isSign w 40) → (hX5_unitAt w) = (-100) → px_Call E (d + 1) 0 0 mX5_refuse [.ref 16] w (fun v w' => px_W E mX5_readUnit (d + 2) 0 0 29 [.null, .null, .null, .null] (v.toList ++ []) w' Q)) :
    px_W E mX5_readUnit (d + 2) 0 0 0 [.ref 16, .int x1, .null, .null] [] w Q := by
  refine px_aload_n dX5_readUnit_0 rfl rfl ?_
  refine px_getR (v := 17) dX5_readUnit_1 fr_5_12 rfl (px_sh1 hw sh_16) (px_rf hw rf_16_0) (by decide) ?_
  refine px_bipush dX5_readUnit_4 bp_40 ?_
  refine px_callV (As := [.int 40]) (st := []) (rc := 0) (rs := 0) (mc := 0) (ms := 0) dX5_readUnit_6 lk_5_178 (px_sh1 hw sh_17) rfl rfl (Nat.le_of_ble_eq_true rfl) (sX6_isSign (w := w) hw ?_)
  show px_W E mX5_readUnit (d + 2) 0 0 9 [.ref 16, .int x1, .null, .null] [.int (jb (pX6_isSign w 40))] w Q
  refine px_istore_n (ls' := [.ref 16, .int x1, .int (jb (pX6_isSign w 40)), .null]) dX5_readUnit_9 rfl ⟨by decide, rfl⟩ rfl ?_
  refine px_aload_n dX5_readUnit_10 rfl rfl ?_
  refine px_callV (As := []) (st := []) (rc := 0) (rs := 0) (mc := 0) (ms := 0) dX5_readUnit_11 lk_5_182 (px_sh1 hw sh_16) rfl rfl (Nat.le_of_ble_eq_true rfl) (sX5_unitAt (w := w) hw ?_)
  show px_W E mX5_readUnit (d + 2) 0 0 14 [.ref 16, .int x1, .int (jb (pX6_isSign w 40)), .null] [.int (hX5_unitAt w)] w Q
  refine px_istore_n (ls' := [.ref 16, .int x1, .int (jb (pX6_isSign w 40)), .int (hX5_unitAt w)]) dX5_readUnit_14 rfl ⟨by decide, rfl⟩ rfl ?_
  refine px_iload_n dX5_readUnit_15 rfl rfl ?_
  refine px_jb_ne (tgt := 30) dX5_readUnit_16 (by decide) (fun h1 => ?_) (fun h1 => ?_)
  ·
    exact (k1 h1)
  ·
    refine px_iload_n dX5_readUnit_19 rfl rfl ?_
    refine px_bipush dX5_readUnit_20 bp_m100 ?_
    refine px_icmp_ne (tgt := 30) dX5_readUnit_22 (by decide) (fun h2 => ?_) (fun h2 => ?_)
    ·
      exact (k2 h1 h2)
    ·
      refine px_aload_n dX5_readUnit_25 rfl rfl ?_
      refine px_forget (ls' := [.null, .null, .null, .null]) ?_ ⟨Or.inl rfl, Or.inl rfl, Or.inl rfl, Or.inl rfl, trivial⟩
      exact px_callV (As := []) (st := []) (rc := 0) (rs := 0) (mc := 0) (ms := 0) dX5_readUnit_26 lk_5_56 (px_sh1 hw sh_16) rfl rfl (Nat.le_of_ble_eq_true rfl) (k3 h1 h2)
theorem eX5_readUnit {E : px_E} {d : Nat} {w : pw_W} {Q : Option Value → pw_W → Prop} {t : ct_T} (hw : w.1 = cs t) {x1 : Int32} (ht2 : is_Hamlet t.2.1) 
    (k1 : (pX6_isSign w 40) → px_W E mX5_readUnit (d + 2) 0 0 30 [.ref 16, .int x1, .int (jb (pX6_isSign w 40)), .int (hX5_unitAt w)] [] w Q)
    (k2 : ¬ (pX6_isSign w 40) → ¬ (hX5_unitAt w) = (-100) → px_W E mX5_readUnit (d + 2) 0 0 30 [.ref 16, .int x1, .int (jb (pX6_isSign w 40)), .int (hX5_unitAt w)] [] w Q)
    (k3 : ¬ (pX6_isSign w 40) → (hX5_unitAt w) = (-100) → px_Call E (d + 1) 0 0 mX5_refuse [.ref 16] w (fun v w' => px_W E mX5_readUnit (d + 2) 0 0 29 [.null, .null, .null, .null] (v.toList ++ []) w' Q)) :
    px_Call E (d + 2) 0 0 mX5_readUnit [.ref 16, .int x1] w Q :=
  px_enter (k := 2) (by decide) (Nat.le_of_ble_eq_true rfl) rfl (px_forget (bX5_readUnit_0 hw ht2 k1 k2 k3) ⟨Or.inr rfl, Or.inr rfl, Or.inl rfl, Or.inl rfl, trivial⟩)
theorem bX5_readUnit_29 {E : px_E} {d : Nat} {w : pw_W} {Q : Option Value → pw_W → Prop} {t : ct_T} (hw : w.1 = cs t) {y0 : Int32} (ht2 : is_Hamlet t.2.1) (hb1 : y0 = 0 ∨ y0 = 1)
    (k1 : Q (some (.int y0)) w) :
    px_W E mX5_readUnit (d + 2) 0 0 29 [.null, .null, .null, .null] [.int y0] w Q := by
  exact px_ireturn dX5_readUnit_29 rfl (px_nb (hb1)) k1
theorem bX5_readUnit_30 {E : px_E} {d : Nat} {w : pw_W} {Q : Option Value → pw_W → Prop} {t : ct_T} (hw : w.1 = cs t) {x1 x2 x3 : Int32} (ht2 : is_Hamlet t.2.1) 
    (k1 : 30 ≤ (pw_I w (t.2.1 + 10) 3) → px_W E mX5_readUnit (d + 2) 0 0 55 [.ref 16, .null, .null, .null] [] w Q)
    (k2 : ¬ 30 ≤ (pw_I w (t.2.1 + 10) 3) → x2 = 0 → px_W E mX5_readUnit (d + 2) 0 0 60 [.ref 16, .int x1, .int x2, .int x3] [] w Q)
    (k3 : ¬ 30 ≤ (pw_I w (t.2.1 + 10) 3) → ¬ x2 = 0 → x1 < 7 → px_W E mX5_readUnit (d + 2) 0 0 60 [.ref 16, .int x1, .int x2, .int x3] [] w Q)
    (k4 : ¬ 30 ≤ (pw_I w (t.2.1 + 10) 3) → ¬ x2 = 0 → ¬ x1 < 7 → px_W E mX5_readUnit (d + 2) 0 0 55 [.ref 16, .null, .null, .null] [] w Q) :
    px_W E mX5_readUnit (d + 2) 0 0 30 [.ref 16, .int x1, .int x2, .int x3] [] w Q := by
  refine px_aload_n dX5_readUnit_30 rfl rfl ?_
  refine px_getR (v := t.2.1) dX5_readUnit_31 fr_5_28 rfl (px_sh1 hw sh_16) (px_rf hw rf_16_3) ht2.ne ?_
  refine px_getR (v := (t.2.1 + 10)) dX5_readUnit_34 fr_5_154 rfl (px_sh1 hw ht2.sh) (px_rf hw ht2.rf15) (Nat.succ_ne_zero _) ?_
  refine px_getI dX5_readUnit_37 fr_5_186 rfl (px_sh1 hw ht2.is10.sh) ?_
  refine px_bipush dX5_readUnit_40 bp_30 ?_
  refine px_icmp_ge (tgt := 55) dX5_readUnit_42 (by decide) (fun h1 => ?_) (fun h1 => ?_)
  ·
    exact px_forget (k1 h1) ⟨Or.inr rfl, Or.inl rfl, Or.inl rfl, Or.inl rfl, trivial⟩
  ·
    refine px_iload_n dX5_readUnit_45 rfl rfl ?_
    refine px_if_eq (tgt := 60) dX5_readUnit_46 (by decide) (fun h2 => ?_) (fun h2 => ?_)
    ·
      exact (k2 h1 h2)
    ·
      refine px_iload_n dX5_readUnit_49 rfl rfl ?_
      refine px_bipush dX5_readUnit_50 bp_7 ?_
      refine px_icmp_lt (tgt := 60) dX5_readUnit_52 (by decide) (fun h3 => ?_) (fun h3 => ?_)
      ·
        exact (k3 h1 h2 h3)
      ·
        exact px_forget (k4 h1 h2 h3) ⟨Or.inr rfl, Or.inl rfl, Or.inl rfl, Or.inl rfl, trivial⟩
theorem bX5_readUnit_55 {E : px_E} {d : Nat} {w : pw_W} {Q : Option Value → pw_W → Prop} {t : ct_T} (hw : w.1 = cs t) (ht2 : is_Hamlet t.2.1) 
    (k1 : px_Call E (d + 1) 0 0 mX5_refuse [.ref 16] w (fun v w' => px_W E mX5_readUnit (d + 2) 0 0 59 [.null, .null, .null, .null] (v.toList ++ []) w' Q)) :
    px_W E mX5_readUnit (d + 2) 0 0 55 [.ref 16, .null, .null, .null] [] w Q := by
  refine px_aload_n dX5_readUnit_55 rfl rfl ?_
  refine px_forget (ls' := [.null, .null, .null, .null]) ?_ ⟨Or.inl rfl, Or.inl rfl, Or.inl rfl, Or.inl rfl, trivial⟩
  exact px_callV (As := []) (st := []) (rc := 0) (rs := 0) (mc := 0) (ms := 0) dX5_readUnit_56 lk_5_56 (px_sh1 hw sh_16) rfl rfl (Nat.le_of_ble_eq_true rfl) k1
theorem bX5_readUnit_59 {E : px_E} {d : Nat} {w : pw_W} {Q : Option Value → pw_W → Prop} {t : ct_T} (hw : w.1 = cs t) {y0 : Int32} (ht2 : is_Hamlet t.2.1) (hb1 : y0 = 0 ∨ y0 = 1)
    (k1 : Q (some (.int y0)) w) :
    px_W E mX5_readUnit (d + 2) 0 0 59 [.null, .null, .null, .null] [.int y0] w Q := by
  exact px_ireturn dX5_readUnit_59 rfl (px_nb (hb1)) k1
theorem bX5_readUnit_60 {E : px_E} {d : Nat} {w : pw_W} {Q : Option Value → pw_W → Prop} {t : ct_T} (hw : w.1 = cs t) {x1 x2 x3 : Int32} (ht2 : is_Hamlet t.2.1) 
    (k1 : px_Call E (d + 1) 0 0 mX6_advance [.ref 17] (pw_sI w (t.2.1 + 10) 3 ((pw_I w (t.2.1 + 10) 3) + 1)) (fun v w' => px_W E mX5_readUnit (d + 2) 0 0 83 [.ref 16, .int x1, .int x2, .int x3] (v.toList ++ []) w' Q)) :
    px_W E mX5_readUnit (d + 2) 0 0 60 [.ref 16, .int x1, .int x2, .int x3] [] w Q := by
  refine px_aload_n dX5_readUnit_60 rfl rfl ?_
  refine px_getR (v := t.2.1) dX5_readUnit_61 fr_5_28 rfl (px_sh1 hw sh_16) (px_rf hw rf_16_3) ht2.ne ?_
  refine px_getR (v := (t.2.1 + 10)) dX5_readUnit_64 fr_5_154 rfl (px_sh1 hw ht2.sh) (px_rf hw ht2.rf15) (Nat.succ_ne_zero _) ?_
  refine px_dup dX5_readUnit_67 rfl ?_
  refine px_getI dX5_readUnit_68 fr_5_186 rfl (px_sh1 hw ht2.is10.sh) ?_
  refine px_iconst dX5_readUnit_71 ic_1 ?_
  refine px_iadd dX5_readUnit_72 ?_
  refine px_putI dX5_readUnit_73 fl_5_186 (Or.inl rfl) rfl (px_sh1 hw ht2.is10.sh) rfl rfl (by omega) ?_
  refine px_aload_n dX5_readUnit_76 rfl rfl ?_
  refine px_getR (v := 17) dX5_readUnit_77 fr_5_12 rfl (px_sh1 (hI hw) sh_16) (px_rf (hI hw) rf_16_0) (by decide) ?_
  exact px_callV (As := []) (st := []) (rc := 0) (rs := 0) (mc := 0) (ms := 0) dX5_readUnit_80 lk_5_90 (px_sh1 (hI hw) sh_17) rfl rfl (Nat.le_of_ble_eq_true rfl) k1
theorem bX5_readUnit_83 {E : px_E} {d : Nat} {w : pw_W} {Q : Option Value → pw_W → Prop} {t : ct_T} (hw : w.1 = cs t) {x1 x2 x3 : Int32} (ht2 : is_Hamlet t.2.1) 
    (k1 : ¬ x2 = 0 → px_Call E (d + 1) 0 0 mX5_readChain [.ref 16, .int 0, .int (x1 + 1)] w (fun v w' => px_W E mX5_readUnit (d + 2) 0 0 108 [.ref 16, .null, .null, .null] (v.toList ++ []) w' Q))
    (k2 : x2 = 0 → px_Call E (d + 1) 0 0 mX1_add [.ref (t.2.1 + 10), .int x3] w (fun v w' => px_W E mX5_readUnit (d + 2) 0 0 98 [.null, .null, .null, .null] (v.toList ++ []) w' Q)) :
    px_W E mX5_readUnit (d + 2) 0 0 83 [.ref 16, .int x1, .int x2, .int x3] [] w Q := by
  refine px_iload_n dX5_readUnit_83 rfl rfl ?_
  refine px_if_ne (tgt := 100) dX5_readUnit_84 (by decide) (fun h1 => ?_) (fun h1 => ?_)
  ·
    refine px_aload_n dX5_readUnit_100 rfl rfl ?_
    refine px_iconst dX5_readUnit_101 ic_0 ?_
    refine px_iload_n dX5_readUnit_102 rfl rfl ?_
    refine px_iconst dX5_readUnit_103 ic_1 ?_
    refine px_iadd dX5_readUnit_104 ?_
    refine px_forget (ls' := [.ref 16, .null, .null, .null]) ?_ ⟨Or.inr rfl, Or.inl rfl, Or.inl rfl, Or.inl rfl, trivial⟩
    exact px_callV (As := [.int 0, .int (x1 + 1)]) (st := []) (rc := 0) (rs := 0) (mc := 0) (ms := 0) dX5_readUnit_105 lk_5_161 (px_sh1 hw sh_16) rfl rfl (Nat.le_of_ble_eq_true rfl) (k1 h1)
  ·
    refine px_aload_n dX5_readUnit_87 rfl rfl ?_
    refine px_getR (v := t.2.1) dX5_readUnit_88 fr_5_28 rfl (px_sh1 hw sh_16) (px_rf hw rf_16_3) ht2.ne ?_
    refine px_getR (v := (t.2.1 + 10)) dX5_readUnit_91 fr_5_154 rfl (px_sh1 hw ht2.sh) (px_rf hw ht2.rf15) (Nat.succ_ne_zero _) ?_
    refine px_iload_n dX5_readUnit_94 rfl rfl ?_
    refine px_forget (ls' := [.null, .null, .null, .null]) ?_ ⟨Or.inl rfl, Or.inl rfl, Or.inl rfl, Or.inl rfl, trivial⟩
    exact px_callV (As := [.int x3]) (st := []) (rc := 0) (rs := 0) (mc := 0) (ms := 0) dX5_readUnit_95 lk_5_174 (px_sh1 hw ht2.is10.sh) rfl rfl (Nat.le_of_ble_eq_true rfl) (k2 h1)
theorem bX5_readUnit_98 {E : px_E} {d : Nat} {w : pw_W} {Q : Option Value → pw_W → Prop} {t : ct_T} (hw : w.1 = cs t) (ht2 : is_Hamlet t.2.1) 
    (k1 : Q (some (.int 1)) w) :
    px_W E mX5_readUnit (d + 2) 0 0 98 [.null, .null, .null, .null] [] w Q := by
  refine px_iconst dX5_readUnit_98 ic_1 ?_
  exact px_ireturn dX5_readUnit_99 rfl (by decide) k1
theorem bX5_readUnit_108 {E : px_E} {d : Nat} {w : pw_W} {Q : Option Value → pw_W → Prop} {t : ct_T} (hw : w.1 = cs t) {y0 : Int32} (ht2 : is_Hamlet t.2.1) 
    (k1 : ¬ y0 = 0 → (pX6_isSign w 41) → px_Call E (d + 1) 0 0 mX6_advance [.ref 17] w (fun v w' => px_W E mX5_readUnit (d + 2) 0 0 137 [.null, .null, .null, .null] (v.toList ++ []) w' Q))
    (k2 : ¬ y0 = 0 → ¬ (pX6_isSign w 41) → px_Call E (d + 1) 0 0 mX5_refuse [.ref 16] w (fun v w' => px_W E mX5_readUnit (d + 2) 0 0 129 [.null, .null, .null, .null] (v.toList ++ []) w' Q))
    (k3 : y0 = 0 → Q (some (.int 0)) w) :
    px_W E mX5_readUnit (d + 2) 0 0 108 [.ref 16, .null, .null, .null] [.int y0] w Q := by
  refine px_if_ne (tgt := 113) dX5_readUnit_108 (by decide) (fun h1 => ?_) (fun h1 => ?_)
  ·
    refine px_aload_n dX5_readUnit_113 rfl rfl ?_
    refine px_getR (v := 17) dX5_readUnit_114 fr_5_12 rfl (px_sh1 hw sh_16) (px_rf hw rf_16_0) (by decide) ?_
    refine px_bipush dX5_readUnit_117 bp_41 ?_
    refine px_callV (As := [.int 41]) (st := []) (rc := 0) (rs := 0) (mc := 0) (ms := 0) dX5_readUnit_119 lk_5_178 (px_sh1 hw sh_17) rfl rfl (Nat.le_of_ble_eq_true rfl) (sX6_isSign (w := w) hw ?_)
    show px_W E mX5_readUnit (d + 2) 0 0 122 [.ref 16, .null, .null, .null] [.int (jb (pX6_isSign w 41))] w Q
    refine px_jb_ne (tgt := 130) dX5_readUnit_122 (by decide) (fun h2 => ?_) (fun h2 => ?_)
    ·
      refine px_aload_n dX5_readUnit_130 rfl rfl ?_
      refine px_getR (v := 17) dX5_readUnit_131 fr_5_12 rfl (px_sh1 hw sh_16) (px_rf hw rf_16_0) (by decide) ?_
      refine px_forget (ls' := [.null, .null, .null, .null]) ?_ ⟨Or.inl rfl, Or.inl rfl, Or.inl rfl, Or.inl rfl, trivial⟩
      exact px_callV (As := []) (st := []) (rc := 0) (rs := 0) (mc := 0) (ms := 0) dX5_readUnit_134 lk_5_90 (px_sh1 hw sh_17) rfl rfl (Nat.le_of_ble_eq_true rfl) (k1 h1 h2)
    ·
      refine px_aload_n dX5_readUnit_125 rfl rfl ?_
      refine px_forget (ls' := [.null, .null, .null, .null]) ?_ ⟨Or.inl rfl, Or.inl rfl, Or.inl rfl, Or.inl rfl, trivial⟩
      exact px_callV (As := []) (st := []) (rc := 0) (rs := 0) (mc := 0) (ms := 0) dX5_readUnit_126 lk_5_56 (px_sh1 hw sh_16) rfl rfl (Nat.le_of_ble_eq_true rfl) (k2 h1 h2)
  ·
    refine px_iconst dX5_readUnit_111 ic_0 ?_
    exact px_ireturn dX5_readUnit_112 rfl (by decide) (k3 h1)
theorem bX5_readUnit_129 {E : px_E} {d : Nat} {w : pw_W} {Q : Option Value → pw_W → Prop} {t : ct_T} (hw : w.1 = cs t) {y0 : Int32} (ht2 : is_Hamlet t.2.1) (hb1 : y0 = 0 ∨ y0 = 1)
    (k1 : Q (some (.int y0)) w) :
    px_W E mX5_readUnit (d + 2) 0 0 129 [.null, .null, .null, .null] [.int y0] w Q := by
  exact px_ireturn dX5_readUnit_129 rfl (px_nb (hb1)) k1
theorem bX5_readUnit_137 {E : px_E} {d : Nat} {w : pw_W} {Q : Option Value → pw_W → Prop} {t : ct_T} (hw : w.1 = cs t) (ht2 : is_Hamlet t.2.1) 
    (k1 : Q (some (.int 1)) w) :
    px_W E mX5_readUnit (d + 2) 0 0 137 [.null, .null, .null, .null] [] w Q := by
  refine px_iconst dX5_readUnit_137 ic_1 ?_
  exact px_ireturn dX5_readUnit_138 rfl (by decide) k1
theorem dX5_readNewName_0 : decode mX5_readNewName.2.1 0 = .ok (.aload_n 0, 1) := by decide +kernel
theorem dX5_readNewName_1 : decode mX5_readNewName.2.1 1 = .ok (.getfield 12, 3) := by decide +kernel
theorem dX5_readNewName_4 : decode mX5_readNewName.2.1 4 = .ok (.getfield 49, 3) := by decide +kernel
theorem dX5_readNewName_7 : decode mX5_readNewName.2.1 7 = .ok (.iconst 3, 1) := by decide +kernel
theorem dX5_readNewName_8 : decode mX5_readNewName.2.1 8 = .ok (.if_icmp .eq 8, 3) := by decide +kernel
theorem dX5_readNewName_11 : decode mX5_readNewName.2.1 11 = .ok (.aload_n 0, 1) := by decide +kernel
theorem dX5_readNewName_12 : decode mX5_readNewName.2.1 12 = .ok (.invokevirtual 56, 3) := by decide +kernel
theorem dX5_readNewName_15 : decode mX5_readNewName.2.1 15 = .ok (.ireturn, 1) := by decide +kernel
theorem dX5_readNewName_16 : decode mX5_readNewName.2.1 16 = .ok (.aload_n 0, 1) := by decide +kernel
theorem dX5_readNewName_17 : decode mX5_readNewName.2.1 17 = .ok (.aload_n 1, 1) := by decide +kernel
theorem dX5_readNewName_18 : decode mX5_readNewName.2.1 18 = .ok (.iload_n 2, 1) := by decide +kernel
theorem dX5_readNewName_19 : decode mX5_readNewName.2.1 19 = .ok (.invokevirtual 189, 3) := by decide +kernel
theorem dX5_readNewName_22 : decode mX5_readNewName.2.1 22 = .ok (.iconst (-1), 1) := by decide +kernel
theorem dX5_readNewName_23 : decode mX5_readNewName.2.1 23 = .ok (.if_icmp .eq 9, 3) := by decide +kernel
theorem dX5_readNewName_26 : decode mX5_readNewName.2.1 26 = .ok (.aload_n 0, 1) := by decide +kernel
theorem dX5_readNewName_27 : decode mX5_readNewName.2.1 27 = .ok (.iconst 3, 1) := by decide +kernel
theorem dX5_readNewName_28 : decode mX5_readNewName.2.1 28 = .ok (.invokevirtual 193, 3) := by decide +kernel
theorem dX5_readNewName_31 : decode mX5_readNewName.2.1 31 = .ok (.ireturn, 1) := by decide +kernel
theorem dX5_readNewName_32 : decode mX5_readNewName.2.1 32 = .ok (.aload_n 1, 1) := by decide +kernel
theorem dX5_readNewName_33 : decode mX5_readNewName.2.1 33 = .ok (.iload_n 2, 1) := by decide +kernel
theorem dX5_readNewName_34 : decode mX5_readNewName.2.1 34 = .ok (.aload_n 0, 1) := by decide +kernel
theorem dX5_readNewName_35 : decode mX5_readNewName.2.1 35 = .ok (.getfield 12, 3) := by decide +kernel
theorem dX5_readNewName_38 : decode mX5_readNewName.2.1 38 = .ok (.getfield 196, 3) := by decide +kernel
theorem dX5_readNewName_41 : decode mX5_readNewName.2.1 41 = .ok (.lastore, 1) := by decide +kernel
theorem dX5_readNewName_42 : decode mX5_readNewName.2.1 42 = .ok (.aload_n 0, 1) := by decide +kernel
theorem dX5_readNewName_43 : decode mX5_readNewName.2.1 43 = .ok (.getfield 12, 3) := by decide +kernel
theorem dX5_readNewName_46 : decode mX5_readNewName.2.1 46 = .ok (.invokevirtual 90, 3) := by decide +kernel
theorem dX5_readNewName_49 : decode mX5_readNewName.2.1 49 = .ok (.iconst 1, 1) := by decide +kernel
theorem dX5_readNewName_50 : decode mX5_readNewName.2.1 50 = .ok (.ireturn, 1) := by decide +kernel
theorem bX5_readNewName_0 {E : px_E} {d : Nat} {w : pw_W} {Q : Option Value → pw_W → Prop} {t : ct_T} (hw : w.1 = cs t) {x2 : Int32} {r1 n1 : Nat} (hs1 : (cs t).2.1 r1 = (103, n1)) (hn1 : n1 < 2 ^ 31) 
    (k1 : (pw_I w 17 4) = 3 → px_Call E d 0 0 mX5_indexOf [.ref 16, .ref r1, .int x2] w (fun v w' => px_W E mX5_readNewName (d + 1) 0 0 22 [.ref 16, .ref r1, .int x2] (v.toList ++ []) w' Q))
    (k2 : ¬ (pw_I w 17 4) = 3 → px_Call E d 0 0 mX5_refuse [.ref 16] w (fun v w' => px_W E mX5_readNewName (d + 1) 0 0 15 [.null, .null, .null] (v.toList ++ []) w' Q)) :
    px_W E mX5_readNewName (d + 1) 0 0 0 [.ref 16, .ref r1, .int x2] [] w Q := by
  refine px_aload_n dX5_readNewName_0 rfl rfl ?_
  refine px_getR (v := 17) dX5_readNewName_1 fr_5_12 rfl (px_sh1 hw sh_16) (px_rf hw rf_16_0) (by decide) ?_
  refine px_getI dX5_readNewName_4 fr_5_49 rfl (px_sh1 hw sh_17) ?_
  refine px_iconst dX5_readNewName_7 ic_3 ?_
  refine px_icmp_eq (tgt := 16) dX5_readNewName_8 (by decide) (fun h1 => ?_) (fun h1 => ?_)
  ·
    refine px_aload_n dX5_readNewName_16 rfl rfl ?_
    refine px_aload_n dX5_readNewName_17 rfl rfl ?_
    refine px_iload_n dX5_readNewName_18 rfl rfl ?_
    exact px_callV (As := [.ref r1, .int x2]) (st := []) (rc := 0) (rs := 0) (mc := 0) (ms := 0) dX5_readNewName_19 lk_5_189 (px_sh1 hw sh_16) rfl rfl (Nat.le_of_ble_eq_true rfl) (k1 h1)
  ·
    refine px_aload_n dX5_readNewName_11 rfl rfl ?_
    refine px_forget (ls' := [.null, .null, .null]) ?_ ⟨Or.inl rfl, Or.inl rfl, Or.inl rfl, trivial⟩
    exact px_callV (As := []) (st := []) (rc := 0) (rs := 0) (mc := 0) (ms := 0) dX5_readNewName_12 lk_5_56 (px_sh1 hw sh_16) rfl rfl (Nat.le_of_ble_eq_true rfl) (k2 h1)
theorem eX5_readNewName {E : px_E} {d : Nat} {w : pw_W} {Q : Option Value → pw_W → Prop} {t : ct_T} (hw : w.1 = cs t) {x2 : Int32} {r1 n1 : Nat} (hs1 : (cs t).2.1 r1 = (103, n1)) (hn1 : n1 < 2 ^ 31) 
    (k1 : (pw_I w 17 4) = 3 → px_Call E d 0 0 mX5_indexOf [.ref 16, .ref r1, .int x2] w (fun v w' => px_W E mX5_readNewName (d + 1) 0 0 22 [.ref 16, .ref r1, .int x2] (v.toList ++ []) w' Q))
    (k2 : ¬ (pw_I w 17 4) = 3 → px_Call E d 0 0 mX5_refuse [.ref 16] w (fun v w' => px_W E mX5_readNewName (d + 1) 0 0 15 [.null, .null, .null] (v.toList ++ []) w' Q)) :
    px_Call E (d + 1) 0 0 mX5_readNewName [.ref 16, .ref r1, .int x2] w Q :=
  px_enter (k := 0) (by decide) (Nat.le_of_ble_eq_true rfl) rfl (px_forget (bX5_readNewName_0 hw hs1 hn1 k1 k2) ⟨Or.inr rfl, Or.inr rfl, Or.inr rfl, trivial⟩)
theorem bX5_readNewName_15 {E : px_E} {d : Nat} {w : pw_W} {Q : Option Value → pw_W → Prop} {t : ct_T} (hw : w.1 = cs t) {y0 : Int32} {r1 n1 : Nat} (hs1 : (cs t).2.1 r1 = (103, n1)) (hn1 : n1 < 2 ^ 31) (hb1 : y0 = 0 ∨ y0 = 1)
    (k1 : Q (some (.int y0)) w) :
    px_W E mX5_readNewName (d + 1) 0 0 15 [.null, .null, .null] [.int y0] w Q := by
  exact px_ireturn dX5_readNewName_15 rfl (px_nb (hb1)) k1
theorem bX5_readNewName_22 {E : px_E} {d : Nat} {w : pw_W} {Q : Option Value → pw_W → Prop} {t : ct_T} (hw : w.1 = cs t) {x2 y0 : Int32} {r1 n1 : Nat} (hs1 : (cs t).2.1 r1 = (103, n1)) (hn1 : n1 < 2 ^ 31) 
    (k1 : y0 = (-1) → px_W E mX5_readNewName (d + 1) 0 0 32 [.ref 16, .ref r1, .int x2] [] w Q)
    (k2 : ¬ y0 = (-1) → px_Call E d 0 0 mX5_setFault [.ref 16, .int 3] w (fun v w' => px_W E mX5_readNewName (d + 1) 0 0 31 [.null, .null, .null] (v.toList ++ []) w' Q)) :
    px_W E mX5_readNewName (d + 1) 0 0 22 [.ref 16, .ref r1, .int x2] [.int y0] w Q := by
  refine px_iconst dX5_readNewName_22 ic_m1 ?_
  refine px_icmp_eq (tgt := 32) dX5_readNewName_23 (by decide) (fun h1 => ?_) (fun h1 => ?_)
  ·
    exact (k1 h1)
  ·
    refine px_aload_n dX5_readNewName_26 rfl rfl ?_
    refine px_iconst dX5_readNewName_27 ic_3 ?_
    refine px_forget (ls' := [.null, .null, .null]) ?_ ⟨Or.inl rfl, Or.inl rfl, Or.inl rfl, trivial⟩
    exact px_callV (As := [.int 3]) (st := []) (rc := 0) (rs := 0) (mc := 0) (ms := 0) dX5_readNewName_28 lk_5_193 (px_sh1 hw sh_16) rfl rfl (Nat.le_of_ble_eq_true rfl) (k2 h1)
theorem bX5_readNewName_31 {E : px_E} {d : Nat} {w : pw_W} {Q : Option Value → pw_W → Prop} {t : ct_T} (hw : w.1 = cs t) {y0 : Int32} {r1 n1 : Nat} (hs1 : (cs t).2.1 r1 = (103, n1)) (hn1 : n1 < 2 ^ 31) (hb1 : y0 = 0 ∨ y0 = 1)
    (k1 : Q (some (.int y0)) w) :
    px_W E mX5_readNewName (d + 1) 0 0 31 [.null, .null, .null] [.int y0] w Q := by
  exact px_ireturn dX5_readNewName_31 rfl (px_nb (hb1)) k1
theorem bX5_readNewName_32 {E : px_E} {d : Nat} {w : pw_W} {Q : Option Value → pw_W → Prop} {t : ct_T} (hw : w.1 = cs t) {x2 : Int32} {r1 n1 : Nat} (hs1 : (cs t).2.1 r1 = (103, n1)) (hn1 : n1 < 2 ^ 31) (j1 : Nat) (hj1 : x2 = nI j1) (hl1 : j1 < n1)
    (k1 : px_Call E d 0 0 mX6_advance [.ref 17] (pw_sL w r1 j1 (pw_L w 17 6)) (fun v w' => px_W E mX5_readNewName (d + 1) 0 0 49 [.null, .null, .null] (v.toList ++ []) w' Q)) :
    px_W E mX5_readNewName (d + 1) 0 0 32 [.ref 16, .ref r1, .int x2] [] w Q := by
  refine px_aload_n dX5_readNewName_32 rfl rfl ?_
  refine px_iload_n dX5_readNewName_33 rfl rfl ?_
  refine px_aload_n dX5_readNewName_34 rfl rfl ?_
  refine px_getR (v := 17) dX5_readNewName_35 fr_5_12 rfl (px_sh1 hw sh_16) (px_rf hw rf_16_0) (by decide) ?_
  refine px_getL dX5_readNewName_38 fr_5_196 rfl (px_sh1 hw sh_17) ?_
  refine px_last dX5_readNewName_41 (px_sh2 hw hs1) hn1 j1 hj1 hl1 (by omega) ?_
  refine px_aload_n dX5_readNewName_42 rfl rfl ?_
  refine px_getR (v := 17) dX5_readNewName_43 fr_5_12 rfl (px_sh1 (hL hw) sh_16) (px_rf (hL hw) rf_16_0) (by decide) ?_
  refine px_forget (ls' := [.null, .null, .null]) ?_ ⟨Or.inl rfl, Or.inl rfl, Or.inl rfl, trivial⟩
  exact px_callV (As := []) (st := []) (rc := 0) (rs := 0) (mc := 0) (ms := 0) dX5_readNewName_46 lk_5_90 (px_sh1 (hL hw) sh_17) rfl rfl (Nat.le_of_ble_eq_true rfl) k1
theorem bX5_readNewName_49 {E : px_E} {d : Nat} {w : pw_W} {Q : Option Value → pw_W → Prop} {t : ct_T} (hw : w.1 = cs t) {r1 n1 : Nat} (hs1 : (cs t).2.1 r1 = (103, n1)) (hn1 : n1 < 2 ^ 31) 
    (k1 : Q (some (.int 1)) w) :
    px_W E mX5_readNewName (d + 1) 0 0 49 [.null, .null, .null] [] w Q := by
  refine px_iconst dX5_readNewName_49 ic_1 ?_
  exact px_ireturn dX5_readNewName_50 rfl (by decide) k1
theorem dX5_readPersonNotIn_0 : decode mX5_readPersonNotIn.2.1 0 = .ok (.aload_n 0, 1) := by decide +kernel
theorem dX5_readPersonNotIn_1 : decode mX5_readPersonNotIn.2.1 1 = .ok (.getfield 12, 3) := by decide +kernel
theorem dX5_readPersonNotIn_4 : decode mX5_readPersonNotIn.2.1 4 = .ok (.getfield 49, 3) := by decide +kernel
theorem dX5_readPersonNotIn_7 : decode mX5_readPersonNotIn.2.1 7 = .ok (.iconst 3, 1) := by decide +kernel
theorem dX5_readPersonNotIn_8 : decode mX5_readPersonNotIn.2.1 8 = .ok (.if_icmp .eq 10, 3) := by decide +kernel
theorem dX5_readPersonNotIn_11 : decode mX5_readPersonNotIn.2.1 11 = .ok (.aload_n 0, 1) := by decide +kernel
theorem dX5_readPersonNotIn_12 : decode mX5_readPersonNotIn.2.1 12 = .ok (.invokevirtual 56, 3) := by decide +kernel
theorem dX5_readPersonNotIn_15 : decode mX5_readPersonNotIn.2.1 15 = .ok (.pop, 1) := by decide +kernel
theorem dX5_readPersonNotIn_16 : decode mX5_readPersonNotIn.2.1 16 = .ok (.iconst (-1), 1) := by decide +kernel
theorem dX5_readPersonNotIn_17 : decode mX5_readPersonNotIn.2.1 17 = .ok (.ireturn, 1) := by decide +kernel
theorem dX5_readPersonNotIn_18 : decode mX5_readPersonNotIn.2.1 18 = .ok (.aload_n 0, 1) := by decide +kernel
theorem dX5_readPersonNotIn_19 : decode mX5_readPersonNotIn.2.1 19 = .ok (.aload_n 0, 1) := by decide +kernel
theorem dX5_readPersonNotIn_20 : decode mX5_readPersonNotIn.2.1 20 = .ok (.getfield 18, 3) := by decide +kernel
theorem dX5_readPersonNotIn_23 : decode mX5_readPersonNotIn.2.1 23 = .ok (.aload_n 0, 1) := by decide +kernel
theorem dX5_readPersonNotIn_24 : decode mX5_readPersonNotIn.2.1 24 = .ok (.getfield 28, 3) := by decide +kernel
theorem dX5_readPersonNotIn_27 : decode mX5_readPersonNotIn.2.1 27 = .ok (.getfield 87, 3) := by decide +kernel
theorem dX5_readPersonNotIn_30 : decode mX5_readPersonNotIn.2.1 30 = .ok (.invokevirtual 189, 3) := by decide +kernel
theorem dX5_readPersonNotIn_33 : decode mX5_readPersonNotIn.2.1 33 = .ok (.istore_n 2, 1) := by decide +kernel
theorem dX5_readPersonNotIn_34 : decode mX5_readPersonNotIn.2.1 34 = .ok (.iload_n 2, 1) := by decide +kernel
theorem dX5_readPersonNotIn_35 : decode mX5_readPersonNotIn.2.1 35 = .ok (.iconst (-1), 1) := by decide +kernel
theorem dX5_readPersonNotIn_36 : decode mX5_readPersonNotIn.2.1 36 = .ok (.if_icmp .ne 11, 3) := by decide +kernel
theorem dX5_readPersonNotIn_39 : decode mX5_readPersonNotIn.2.1 39 = .ok (.aload_n 0, 1) := by decide +kernel
theorem dX5_readPersonNotIn_40 : decode mX5_readPersonNotIn.2.1 40 = .ok (.iconst 5, 1) := by decide +kernel
theorem dX5_readPersonNotIn_41 : decode mX5_readPersonNotIn.2.1 41 = .ok (.invokevirtual 193, 3) := by decide +kernel
theorem dX5_readPersonNotIn_44 : decode mX5_readPersonNotIn.2.1 44 = .ok (.pop, 1) := by decide +kernel
theorem dX5_readPersonNotIn_45 : decode mX5_readPersonNotIn.2.1 45 = .ok (.iconst (-1), 1) := by decide +kernel
theorem dX5_readPersonNotIn_46 : decode mX5_readPersonNotIn.2.1 46 = .ok (.ireturn, 1) := by decide +kernel
theorem dX5_readPersonNotIn_47 : decode mX5_readPersonNotIn.2.1 47 = .ok (.iload_n 1, 1) := by decide +kernel
theorem dX5_readPersonNotIn_48 : decode mX5_readPersonNotIn.2.1 48 = .ok (.iload_n 2, 1) := by decide +kernel
theorem dX5_readPersonNotIn_49 : decode mX5_readPersonNotIn.2.1 49 = .ok (.ishr, 1) := by decide +kernel
theorem dX5_readPersonNotIn_50 : decode mX5_readPersonNotIn.2.1 50 = .ok (.iconst 1, 1) := by decide +kernel
theorem dX5_readPersonNotIn_51 : decode mX5_readPersonNotIn.2.1 51 = .ok (.iand, 1) := by decide +kernel
theorem dX5_readPersonNotIn_52 : decode mX5_readPersonNotIn.2.1 52 = .ok (.iconst 1, 1) := by decide +kernel
theorem dX5_readPersonNotIn_53 : decode mX5_readPersonNotIn.2.1 53 = .ok (.if_icmp .ne 11, 3) := by decide +kernel
theorem dX5_readPersonNotIn_56 : decode mX5_readPersonNotIn.2.1 56 = .ok (.aload_n 0, 1) := by decide +kernel
theorem dX5_readPersonNotIn_57 : decode mX5_readPersonNotIn.2.1 57 = .ok (.iconst 3, 1) := by decide +kernel
theorem dX5_readPersonNotIn_58 : decode mX5_readPersonNotIn.2.1 58 = .ok (.invokevirtual 193, 3) := by decide +kernel
theorem dX5_readPersonNotIn_61 : decode mX5_readPersonNotIn.2.1 61 = .ok (.pop, 1) := by decide +kernel
theorem dX5_readPersonNotIn_62 : decode mX5_readPersonNotIn.2.1 62 = .ok (.iconst (-1), 1) := by decide +kernel
theorem dX5_readPersonNotIn_63 : decode mX5_readPersonNotIn.2.1 63 = .ok (.ireturn, 1) := by decide +kernel
theorem dX5_readPersonNotIn_64 : decode mX5_readPersonNotIn.2.1 64 = .ok (.aload_n 0, 1) := by decide +kernel
theorem dX5_readPersonNotIn_65 : decode mX5_readPersonNotIn.2.1 65 = .ok (.getfield 12, 3) := by decide +kernel
theorem dX5_readPersonNotIn_68 : decode mX5_readPersonNotIn.2.1 68 = .ok (.invokevirtual 90, 3) := by decide +kernel
theorem dX5_readPersonNotIn_71 : decode mX5_readPersonNotIn.2.1 71 = .ok (.iload_n 2, 1) := by decide +kernel
theorem dX5_readPersonNotIn_72 : decode mX5_readPersonNotIn.2.1 72 = .ok (.ireturn, 1) := by decide +kernel
theorem bX5_readPersonNotIn_0 {E : px_E} {d : Nat} {w : pw_W} {Q : Option Value → pw_W → Prop} {t : ct_T} (hw : w.1 = cs t) {x1 : Int32} (ht2 : is_Hamlet t.2.1) 
    (k1 : (pw_I w 17 4) = 3 → px_Call E d 0 0 mX5_indexOf [.ref 16, .ref 20, .int (pw_I w t.2.1 0)] w (fun v w' => px_W E mX5_readPersonNotIn (d + 1) 0 0 33 [.ref 16, .int x1, .null] (v.toList ++ []) w' Q))
    (k2 : ¬ (pw_I w 17 4) = 3 → px_Call E d 0 0 mX5_refuse [.ref 16] w (fun v w' => px_W E mX5_readPersonNotIn (d + 1) 0 0 15 [.null, .null, .null] (v.toList ++ []) w' Q)) :
    px_W E mX5_readPersonNotIn (d + 1) 0 0 0 [.ref 16, .int x1, .null] [] w Q := by
  refine px_aload_n dX5_readPersonNotIn_0 rfl rfl ?_
  refine px_getR (v := 17) dX5_readPersonNotIn_1 fr_5_12 rfl (px_sh1 hw sh_16) (px_rf hw rf_16_0) (by decide) ?_
  refine px_getI dX5_readPersonNotIn_4 fr_5_49 rfl (px_sh1 hw sh_17) ?_
  refine px_iconst dX5_readPersonNotIn_7 ic_3 ?_
  refine px_icmp_eq (tgt := 18) dX5_readPersonNotIn_8 (by decide) (fun h1 => ?_) (fun h1 => ?_)
  ·
    refine px_aload_n dX5_readPersonNotIn_18 rfl rfl ?_
    refine px_aload_n dX5_readPersonNotIn_19 rfl rfl ?_
    refine px_getR (v := 20) dX5_readPersonNotIn_20 fr_5_18 rfl (px_sh1 hw sh_16) (px_rf hw rf_16_1) (by decide) ?_
    refine px_aload_n dX5_readPersonNotIn_23 rfl rfl ?_
    refine px_getR (v := t.2.1) dX5_readPersonNotIn_24 fr_5_28 rfl (px_sh1 hw sh_16) (px_rf hw rf_16_3) ht2.ne ?_
    refine px_getI dX5_readPersonNotIn_27 fr_5_87 rfl (px_sh1 hw ht2.sh) ?_
    exact px_callV (As := [.ref 20, .int (pw_I w t.2.1 0)]) (st := []) (rc := 0) (rs := 0) (mc := 0) (ms := 0) dX5_readPersonNotIn_30 lk_5_189 (px_sh1 hw sh_16) rfl rfl (Nat.le_of_ble_eq_true rfl) (k1 h1)
  ·
    refine px_aload_n dX5_readPersonNotIn_11 rfl rfl ?_
    refine px_forget (ls' := [.null, .null, .null]) ?_ ⟨Or.inl rfl, Or.inl rfl, Or.inl rfl, trivial⟩
    exact px_callV (As := []) (st := []) (rc := 0) (rs := 0) (mc := 0) (ms := 0) dX5_readPersonNotIn_12 lk_5_56 (px_sh1 hw sh_16) rfl rfl (Nat.le_of_ble_eq_true rfl) (k2 h1)
theorem eX5_readPersonNotIn {E : px_E} {d : Nat} {w : pw_W} {Q : Option Value → pw_W → Prop} {t : ct_T} (hw : w.1 = cs t) {x1 : Int32} (ht2 : is_Hamlet t.2.1) 
    (k1 : (pw_I w 17 4) = 3 → px_Call E d 0 0 mX5_indexOf [.ref 16, .ref 20, .int (pw_I w t.2.1 0)] w (fun v w' => px_W E mX5_readPersonNotIn (d + 1) 0 0 33 [.ref 16, .int x1, .null] (v.toList ++ []) w' Q))
    (k2 : ¬ (pw_I w 17 4) = 3 → px_Call E d 0 0 mX5_refuse [.ref 16] w (fun v w' => px_W E mX5_readPersonNotIn (d + 1) 0 0 15 [.null, .null, .null] (v.toList ++ []) w' Q)) :
    px_Call E (d + 1) 0 0 mX5_readPersonNotIn [.ref 16, .int x1] w Q :=
  px_enter (k := 1) (by decide) (Nat.le_of_ble_eq_true rfl) rfl (px_forget (bX5_readPersonNotIn_0 hw ht2 k1 k2) ⟨Or.inr rfl, Or.inr rfl, Or.inl rfl, trivial⟩)
theorem bX5_readPersonNotIn_15 {E : px_E} {d : Nat} {w : pw_W} {Q : Option Value → pw_W → Prop} {t : ct_T} (hw : w.1 = cs t) {y0 : Int32} (ht2 : is_Hamlet t.2.1) 
    (k1 : Q (some (.int (-1))) w) :
    px_W E mX5_readPersonNotIn (d + 1) 0 0 15 [.null, .null, .null] [.int y0] w Q := by
  refine px_pop dX5_readPersonNotIn_15 rfl ?_
  refine px_iconst dX5_readPersonNotIn_16 ic_m1 ?_
  exact px_ireturn dX5_readPersonNotIn_17 rfl rfl k1
theorem bX5_readPersonNotIn_33 {E : px_E} {d : Nat} {w : pw_W} {Q : Option Value → pw_W → Prop} {t : ct_T} (hw : w.1 = cs t) {x1 y0 : Int32} (ht2 : is_Hamlet t.2.1) 
    (k1 : ¬ y0 = (-1) → ¬ ((js_shr x1 y0) &&& 1) = 1 → px_Call E d 0 0 mX6_advance [.ref 17] w (fun v w' => px_W E mX5_readPersonNotIn (d + 1) 0 0 71 [.null, .null, .int y0] (v.toList ++ []) w' Q))
    (k2 : ¬ y0 = (-1) → ((js_shr x1 y0) &&& 1) = 1 → px_Call E d 0 0 mX5_setFault [.ref 16, .int 3] w (fun v w' => px_W E mX5_readPersonNotIn (d + 1) 0 0 61 [.null, .null, .null] (v.toList ++ []) w' Q))
    (k3 : y0 = (-1) → px_Call E d 0 0 mX5_setFault [.ref 16, .int 5] w (fun v w' => px_W E mX5_readPersonNotIn (d + 1) 0 0 44 [.null, .null, .null] (v.toList ++ []) w' Q)) :
    px_W E mX5_readPersonNotIn (d + 1) 0 0 33 [.ref 16, .int x1, .null] [.int y0] w Q := by
  refine px_istore_n (ls' := [.ref 16, .int x1, .int y0]) dX5_readPersonNotIn_33 rfl ⟨by decide, rfl⟩ rfl ?_
  refine px_iload_n dX5_readPersonNotIn_34 rfl rfl ?_
  refine px_iconst dX5_readPersonNotIn_35 ic_m1 ?_
  refine px_icmp_ne (tgt := 47) dX5_readPersonNotIn_36 (by decide) (fun h1 => ?_) (fun h1 => ?_)
  ·
    refine px_iload_n dX5_readPersonNotIn_47 rfl rfl ?_
    refine px_iload_n dX5_readPersonNotIn_48 rfl rfl ?_
    refine px_ishr dX5_readPersonNotIn_49 ?_
    refine px_iconst dX5_readPersonNotIn_50 ic_1 ?_
    refine px_iand dX5_readPersonNotIn_51 ?_
    refine px_iconst dX5_readPersonNotIn_52 ic_1 ?_
    refine px_icmp_ne (tgt := 64) dX5_readPersonNotIn_53 (by decide) (fun h2 => ?_) (fun h2 => ?_)
    ·
      refine px_aload_n dX5_readPersonNotIn_64 rfl rfl ?_
      refine px_getR (v := 17) dX5_readPersonNotIn_65 fr_5_12 rfl (px_sh1 hw sh_16) (px_rf hw rf_16_0) (by decide) ?_
      refine px_forget (ls' := [.null, .null, .int y0]) ?_ ⟨Or.inl rfl, Or.inl rfl, Or.inr rfl, trivial⟩
      exact px_callV (As := []) (st := []) (rc := 0) (rs := 0) (mc := 0) (ms := 0) dX5_readPersonNotIn_68 lk_5_90 (px_sh1 hw sh_17) rfl rfl (Nat.le_of_ble_eq_true rfl) (k1 h1 h2)
    ·
      refine px_aload_n dX5_readPersonNotIn_56 rfl rfl ?_
      refine px_iconst dX5_readPersonNotIn_57 ic_3 ?_
      refine px_forget (ls' := [.null, .null, .null]) ?_ ⟨Or.inl rfl, Or.inl rfl, Or.inl rfl, trivial⟩
      exact px_callV (As := [.int 3]) (st := []) (rc := 0) (rs := 0) (mc := 0) (ms := 0) dX5_readPersonNotIn_58 lk_5_193 (px_sh1 hw sh_16) rfl rfl (Nat.le_of_ble_eq_true rfl) (k2 h1 h2)
  ·
    refine px_aload_n dX5_readPersonNotIn_39 rfl rfl ?_
    refine px_iconst dX5_readPersonNotIn_40 ic_5 ?_
    refine px_forget (ls' := [.null, .null, .null]) ?_ ⟨Or.inl rfl, Or.inl rfl, Or.inl rfl, trivial⟩
    exact px_callV (As := [.int 5]) (st := []) (rc := 0) (rs := 0) (mc := 0) (ms := 0) dX5_readPersonNotIn_41 lk_5_193 (px_sh1 hw sh_16) rfl rfl (Nat.le_of_ble_eq_true rfl) (k3 h1)
theorem bX5_readPersonNotIn_44 {E : px_E} {d : Nat} {w : pw_W} {Q : Option Value → pw_W → Prop} {t : ct_T} (hw : w.1 = cs t) {y0 : Int32} (ht2 : is_Hamlet t.2.1) 
    (k1 : Q (some (.int (-1))) w) :
    px_W E mX5_readPersonNotIn (d + 1) 0 0 44 [.null, .null, .null] [.int y0] w Q := by
  refine px_pop dX5_readPersonNotIn_44 rfl ?_
  refine px_iconst dX5_readPersonNotIn_45 ic_m1 ?_
  exact px_ireturn dX5_readPersonNotIn_46 rfl rfl k1
theorem bX5_readPersonNotIn_61 {E : px_E} {d : Nat} {w : pw_W} {Q : Option Value → pw_W → Prop} {t : ct_T} (hw : w.1 = cs t) {y0 : Int32} (ht2 : is_Hamlet t.2.1) 
    (k1 : Q (some (.int (-1))) w) :
    px_W E mX5_readPersonNotIn (d + 1) 0 0 61 [.null, .null, .null] [.int y0] w Q := by
  refine px_pop dX5_readPersonNotIn_61 rfl ?_
  refine px_iconst dX5_readPersonNotIn_62 ic_m1 ?_
  exact px_ireturn dX5_readPersonNotIn_63 rfl rfl k1
theorem bX5_readPersonNotIn_71 {E : px_E} {d : Nat} {w : pw_W} {Q : Option Value → pw_W → Prop} {t : ct_T} (hw : w.1 = cs t) {x2 : Int32} (ht2 : is_Hamlet t.2.1) 
    (k1 : Q (some (.int x2)) w) :
    px_W E mX5_readPersonNotIn (d + 1) 0 0 71 [.null, .null, .int x2] [] w Q := by
  refine px_iload_n dX5_readPersonNotIn_71 rfl rfl ?_
  exact px_ireturn dX5_readPersonNotIn_72 rfl rfl k1
theorem dX5_indexOf_0 : decode mX5_indexOf.2.1 0 = .ok (.iconst 0, 1) := by decide +kernel
theorem dX5_indexOf_1 : decode mX5_indexOf.2.1 1 = .ok (.istore_n 3, 1) := by decide +kernel
theorem dX5_indexOf_2 : decode mX5_indexOf.2.1 2 = .ok (.iload_n 3, 1) := by decide +kernel
theorem dX5_indexOf_3 : decode mX5_indexOf.2.1 3 = .ok (.iload_n 2, 1) := by decide +kernel
theorem dX5_indexOf_4 : decode mX5_indexOf.2.1 4 = .ok (.if_icmp .ge 31, 3) := by decide +kernel
theorem dX5_indexOf_7 : decode mX5_indexOf.2.1 7 = .ok (.iload_n 3, 1) := by decide +kernel
theorem dX5_indexOf_8 : decode mX5_indexOf.2.1 8 = .ok (.aload_n 1, 1) := by decide +kernel
theorem dX5_indexOf_9 : decode mX5_indexOf.2.1 9 = .ok (.arraylength, 1) := by decide +kernel
theorem dX5_indexOf_10 : decode mX5_indexOf.2.1 10 = .ok (.if_icmp .ge 25, 3) := by decide +kernel
theorem dX5_indexOf_13 : decode mX5_indexOf.2.1 13 = .ok (.aload_n 1, 1) := by decide +kernel
theorem dX5_indexOf_14 : decode mX5_indexOf.2.1 14 = .ok (.iload_n 3, 1) := by decide +kernel
theorem dX5_indexOf_15 : decode mX5_indexOf.2.1 15 = .ok (.laload, 1) := by decide +kernel
theorem dX5_indexOf_16 : decode mX5_indexOf.2.1 16 = .ok (.aload_n 0, 1) := by decide +kernel
theorem dX5_indexOf_17 : decode mX5_indexOf.2.1 17 = .ok (.getfield 12, 3) := by decide +kernel
theorem dX5_indexOf_20 : decode mX5_indexOf.2.1 20 = .ok (.getfield 196, 3) := by decide +kernel
theorem dX5_indexOf_23 : decode mX5_indexOf.2.1 23 = .ok (.lcmp, 1) := by decide +kernel
theorem dX5_indexOf_24 : decode mX5_indexOf.2.1 24 = .ok (.ifCond .ne 5, 3) := by decide +kernel
theorem dX5_indexOf_27 : decode mX5_indexOf.2.1 27 = .ok (.iload_n 3, 1) := by decide +kernel
theorem dX5_indexOf_28 : decode mX5_indexOf.2.1 28 = .ok (.ireturn, 1) := by decide +kernel
theorem dX5_indexOf_29 : decode mX5_indexOf.2.1 29 = .ok (.iinc 3 1, 3) := by decide +kernel
theorem dX5_indexOf_32 : decode mX5_indexOf.2.1 32 = .ok (.goto (-30), 3) := by decide +kernel
theorem dX5_indexOf_35 : decode mX5_indexOf.2.1 35 = .ok (.iconst (-1), 1) := by decide +kernel
theorem dX5_indexOf_36 : decode mX5_indexOf.2.1 36 = .ok (.ireturn, 1) := by decide +kernel
theorem bX5_indexOf_0 {E : px_E} {d : Nat} {w : pw_W} {Q : Option Value → pw_W → Prop} {t : ct_T} (hw : w.1 = cs t) {x2 : Int32} {r1 n1 : Nat} (hs1 : (cs t).2.1 r1 = (103, n1)) (hn1 : n1 < 2 ^ 31) 
    (k1 : px_W E mX5_indexOf (d + 1) 0 0 2 [.ref 16, .ref r1, .int x2, .int 0] [] w Q) :
    px_W E mX5_indexOf (d + 1) 0 0 0 [.ref 16, .ref r1, .int x2, .null] [] w Q := by
  refine px_iconst dX5_indexOf_0 ic_0 ?_
  refine px_istore_n (ls' := [.ref 16, .ref r1, .int x2, .int 0]) dX5_indexOf_1 rfl ⟨by decide, rfl⟩ rfl ?_
  exact k1
theorem eX5_indexOf {E : px_E} {d : Nat} {w : pw_W} {Q : Option Value → pw_W → Prop} {t : ct_T} (hw : w.1 = cs t) {x2 : Int32} {r1 n1 : Nat} (hs1 : (cs t).2.1 r1 = (103, n1)) (hn1 : n1 < 2 ^ 31) 
    (k1 : px_W E mX5_indexOf (d + 1) 0 0 2 [.ref 16, .ref r1, .int x2, .int 0] [] w Q) :
    px_Call E (d + 1) 0 0 mX5_indexOf [.ref 16, .ref r1, .int x2] w Q :=
  px_enter (k := 1) (by decide) (Nat.le_of_ble_eq_true rfl) rfl (px_forget (bX5_indexOf_0 hw hs1 hn1 k1) ⟨Or.inr rfl, Or.inr rfl, Or.inr rfl, Or.inl rfl, trivial⟩)
theorem bX5_indexOf_2 {E : px_E} {d : Nat} {w : pw_W} {Q : Option Value → pw_W → Prop} {t : ct_T} (hw : w.1 = cs t) {x2 x3 : Int32} {r1 n1 : Nat} (hs1 : (cs t).2.1 r1 = (103, n1)) (hn1 : n1 < 2 ^ 31) 
    (k1 : x2 ≤ x3 → px_W E mX5_indexOf (d + 1) 0 0 35 [.null, .null, .null, .null] [] w Q)
    (k2 : ¬ x2 ≤ x3 → (nI n1) ≤ x3 → px_W E mX5_indexOf (d + 1) 0 0 35 [.null, .null, .null, .null] [] w Q)
    (k3 : ¬ x2 ≤ x3 → ¬ (nI n1) ≤ x3 → px_W E mX5_indexOf (d + 1) 0 0 13 [.ref 16, .ref r1, .int x2, .int x3] [] w Q) :
    px_W E mX5_indexOf (d + 1) 0 0 2 [.ref 16, .ref r1, .int x2, .int x3] [] w Q := by
  refine px_iload_n dX5_indexOf_2 rfl rfl ?_
  refine px_iload_n dX5_indexOf_3 rfl rfl ?_
  refine px_icmp_ge (tgt := 35) dX5_indexOf_4 (by decide) (fun h1 => ?_) (fun h1 => ?_)
  ·
    exact px_forget (k1 h1) ⟨Or.inl rfl, Or.inl rfl, Or.inl rfl, Or.inl rfl, trivial⟩
  ·
    refine px_iload_n dX5_indexOf_7 rfl rfl ?_
    refine px_aload_n dX5_indexOf_8 rfl rfl ?_
    refine px_llen dX5_indexOf_9 (px_sh2 hw hs1) rfl ?_
    refine px_icmp_ge (tgt := 35) dX5_indexOf_10 (by decide) (fun h2 => ?_) (fun h2 => ?_)
    ·
      exact px_forget (k2 h1 h2) ⟨Or.inl rfl, Or.inl rfl, Or.inl rfl, Or.inl rfl, trivial⟩
    ·
      exact (k3 h1 h2)
theorem bX5_indexOf_13 {E : px_E} {d : Nat} {w : pw_W} {Q : Option Value → pw_W → Prop} {t : ct_T} (hw : w.1 = cs t) {x2 x3 : Int32} {r1 n1 : Nat} (hs1 : (cs t).2.1 r1 = (103, n1)) (hn1 : n1 < 2 ^ 31) (j1 : Nat) (hj1 : x3 = nI j1) (hl1 : j1 < n1)
    (k1 : ¬ (pw_L w r1 j1) = (pw_L w 17 6) → px_W E mX5_indexOf (d + 1) 0 0 2 [.ref 16, .ref r1, .int x2, .int (x3 + 1)] [] w Q)
    (k2 : (pw_L w r1 j1) = (pw_L w 17 6) → Q (some (.int x3)) w) :
    px_W E mX5_indexOf (d + 1) 0 0 13 [.ref 16, .ref r1, .int x2, .int x3] [] w Q := by
  refine px_aload_n dX5_indexOf_13 rfl rfl ?_
  refine px_iload_n dX5_indexOf_14 rfl rfl ?_
  refine px_lald dX5_indexOf_15 (px_sh2 hw hs1) hn1 j1 hj1 hl1 ?_
  refine px_aload_n dX5_indexOf_16 rfl rfl ?_
  refine px_getR (v := 17) dX5_indexOf_17 fr_5_12 rfl (px_sh1 hw sh_16) (px_rf hw rf_16_0) (by decide) ?_
  refine px_getL dX5_indexOf_20 fr_5_196 rfl (px_sh1 hw sh_17) ?_
  refine px_lcmp_ne (tgt := 29) dX5_indexOf_23 dX5_indexOf_24 (by decide) (fun h1 => ?_) (fun h1 => ?_)
  ·
    refine px_iinc (ls' := [.ref 16, .ref r1, .int x2, .int (x3 + 1)]) dX5_indexOf_29 ⟨by decide, rfl⟩ rfl rfl rfl ?_
    refine px_goto (tgt := 2) dX5_indexOf_32 (by decide) ?_
    exact (k1 h1)
  ·
    refine px_iload_n dX5_indexOf_27 rfl rfl ?_
    exact px_ireturn dX5_indexOf_28 rfl rfl (k2 h1)
theorem bX5_indexOf_35 {E : px_E} {d : Nat} {w : pw_W} {Q : Option Value → pw_W → Prop} {t : ct_T} (hw : w.1 = cs t) {r1 n1 : Nat} (hs1 : (cs t).2.1 r1 = (103, n1)) (hn1 : n1 < 2 ^ 31) 
    (k1 : Q (some (.int (-1))) w) :
    px_W E mX5_indexOf (d + 1) 0 0 35 [.null, .null, .null, .null] [] w Q := by
  refine px_iconst dX5_indexOf_35 ic_m1 ?_
  exact px_ireturn dX5_indexOf_36 rfl rfl k1
theorem dX5_readNumberBehind_0 : decode mX5_readNumberBehind.2.1 0 = .ok (.aload_n 0, 1) := by decide +kernel
theorem dX5_readNumberBehind_1 : decode mX5_readNumberBehind.2.1 1 = .ok (.iload_n 1, 1) := by decide +kernel
theorem dX5_readNumberBehind_2 : decode mX5_readNumberBehind.2.1 2 = .ok (.invokevirtual 139, 3) := by decide +kernel
theorem dX5_readNumberBehind_5 : decode mX5_readNumberBehind.2.1 5 = .ok (.ifCond .ne 5, 3) := by decide +kernel
theorem dX5_readNumberBehind_8 : decode mX5_readNumberBehind.2.1 8 = .ok (.iconst (-1), 1) := by decide +kernel
theorem dX5_readNumberBehind_9 : decode mX5_readNumberBehind.2.1 9 = .ok (.ireturn, 1) := by decide +kernel
theorem dX5_readNumberBehind_10 : decode mX5_readNumberBehind.2.1 10 = .ok (.aload_n 0, 1) := by decide +kernel
theorem dX5_readNumberBehind_11 : decode mX5_readNumberBehind.2.1 11 = .ok (.getfield 12, 3) := by decide +kernel
theorem dX5_readNumberBehind_14 : decode mX5_readNumberBehind.2.1 14 = .ok (.getfield 49, 3) := by decide +kernel
theorem dX5_readNumberBehind_17 : decode mX5_readNumberBehind.2.1 17 = .ok (.iconst 2, 1) := by decide +kernel
theorem dX5_readNumberBehind_18 : decode mX5_readNumberBehind.2.1 18 = .ok (.if_icmp .eq 10, 3) := by decide +kernel
theorem dX5_readNumberBehind_21 : decode mX5_readNumberBehind.2.1 21 = .ok (.aload_n 0, 1) := by decide +kernel
theorem dX5_readNumberBehind_22 : decode mX5_readNumberBehind.2.1 22 = .ok (.invokevirtual 56, 3) := by decide +kernel
theorem dX5_readNumberBehind_25 : decode mX5_readNumberBehind.2.1 25 = .ok (.pop, 1) := by decide +kernel
theorem dX5_readNumberBehind_26 : decode mX5_readNumberBehind.2.1 26 = .ok (.iconst (-1), 1) := by decide +kernel
theorem dX5_readNumberBehind_27 : decode mX5_readNumberBehind.2.1 27 = .ok (.ireturn, 1) := by decide +kernel
theorem dX5_readNumberBehind_28 : decode mX5_readNumberBehind.2.1 28 = .ok (.aload_n 0, 1) := by decide +kernel
theorem dX5_readNumberBehind_29 : decode mX5_readNumberBehind.2.1 29 = .ok (.getfield 12, 3) := by decide +kernel
theorem dX5_readNumberBehind_32 : decode mX5_readNumberBehind.2.1 32 = .ok (.getfield 59, 3) := by decide +kernel
theorem dX5_readNumberBehind_35 : decode mX5_readNumberBehind.2.1 35 = .ok (.iload_n 2, 1) := by decide +kernel
theorem dX5_readNumberBehind_36 : decode mX5_readNumberBehind.2.1 36 = .ok (.if_icmp .lt 14, 3) := by decide +kernel
theorem dX5_readNumberBehind_39 : decode mX5_readNumberBehind.2.1 39 = .ok (.aload_n 0, 1) := by decide +kernel
theorem dX5_readNumberBehind_40 : decode mX5_readNumberBehind.2.1 40 = .ok (.getfield 12, 3) := by decide +kernel
theorem dX5_readNumberBehind_43 : decode mX5_readNumberBehind.2.1 43 = .ok (.getfield 59, 3) := by decide +kernel
theorem dX5_readNumberBehind_46 : decode mX5_readNumberBehind.2.1 46 = .ok (.iload_n 3, 1) := by decide +kernel
theorem dX5_readNumberBehind_47 : decode mX5_readNumberBehind.2.1 47 = .ok (.if_icmp .le 11, 3) := by decide +kernel
theorem dX5_readNumberBehind_50 : decode mX5_readNumberBehind.2.1 50 = .ok (.aload_n 0, 1) := by decide +kernel
theorem dX5_readNumberBehind_51 : decode mX5_readNumberBehind.2.1 51 = .ok (.iconst 4, 1) := by decide +kernel
theorem dX5_readNumberBehind_52 : decode mX5_readNumberBehind.2.1 52 = .ok (.invokevirtual 193, 3) := by decide +kernel
theorem dX5_readNumberBehind_55 : decode mX5_readNumberBehind.2.1 55 = .ok (.pop, 1) := by decide +kernel
theorem dX5_readNumberBehind_56 : decode mX5_readNumberBehind.2.1 56 = .ok (.iconst (-1), 1) := by decide +kernel
theorem dX5_readNumberBehind_57 : decode mX5_readNumberBehind.2.1 57 = .ok (.ireturn, 1) := by decide +kernel
theorem dX5_readNumberBehind_58 : decode mX5_readNumberBehind.2.1 58 = .ok (.aload_n 0, 1) := by decide +kernel
theorem dX5_readNumberBehind_59 : decode mX5_readNumberBehind.2.1 59 = .ok (.getfield 12, 3) := by decide +kernel
theorem dX5_readNumberBehind_62 : decode mX5_readNumberBehind.2.1 62 = .ok (.getfield 59, 3) := by decide +kernel
theorem dX5_readNumberBehind_65 : decode mX5_readNumberBehind.2.1 65 = .ok (.istore 4, 2) := by decide +kernel
theorem dX5_readNumberBehind_67 : decode mX5_readNumberBehind.2.1 67 = .ok (.aload_n 0, 1) := by decide +kernel
theorem dX5_readNumberBehind_68 : decode mX5_readNumberBehind.2.1 68 = .ok (.getfield 12, 3) := by decide +kernel
theorem dX5_readNumberBehind_71 : decode mX5_readNumberBehind.2.1 71 = .ok (.invokevirtual 90, 3) := by decide +kernel
theorem dX5_readNumberBehind_74 : decode mX5_readNumberBehind.2.1 74 = .ok (.iload 4, 2) := by decide +kernel
theorem dX5_readNumberBehind_76 : decode mX5_readNumberBehind.2.1 76 = .ok (.ireturn, 1) := by decide +kernel
theorem bX5_readNumberBehind_0 {E : px_E} {d : Nat} {w : pw_W} {Q : Option Value → pw_W → Prop} {t : ct_T} (hw : w.1 = cs t) {x1 x2 x3 : Int32}  
    (k1 : px_Call E d 0 0 mX5_readKeyword [.ref 16, .int x1] w (fun v w' => px_W E mX5_readNumberBehind (d + 1) 0 0 5 [.ref 16, .null, .int x2, .int x3, .null] (v.toList ++ []) w' Q)) :
    px_W E mX5_readNumberBehind (d + 1) 0 0 0 [.ref 16, .int x1, .int x2, .int x3, .null] [] w Q := by
  refine px_aload_n dX5_readNumberBehind_0 rfl rfl ?_
  refine px_iload_n dX5_readNumberBehind_1 rfl rfl ?_
  refine px_forget (ls' := [.ref 16, .null, .int x2, .int x3, .null]) ?_ ⟨Or.inr rfl, Or.inl rfl, Or.inr rfl, Or.inr rfl, Or.inl rfl, trivial⟩
  exact px_callV (As := [.int x1]) (st := []) (rc := 0) (rs := 0) (mc := 0) (ms := 0) dX5_readNumberBehind_2 lk_5_139 (px_sh1 hw sh_16) rfl rfl (Nat.le_of_ble_eq_true rfl) k1
theorem eX5_readNumberBehind {E : px_E} {d : Nat} {w : pw_W} {Q : Option Value → pw_W → Prop} {t : ct_T} (hw : w.1 = cs t) {x1 x2 x3 : Int32}  
    (k1 : px_Call E d 0 0 mX5_readKeyword [.ref 16, .int x1] w (fun v w' => px_W E mX5_readNumberBehind (d + 1) 0 0 5 [.ref 16, .null, .int x2, .int x3, .null] (v.toList ++ []) w' Q)) :
    px_Call E (d + 1) 0 0 mX5_readNumberBehind [.ref 16, .int x1, .int x2, .int x3] w Q :=
  px_enter (k := 1) (by decide) (Nat.le_of_ble_eq_true rfl) rfl (px_forget (bX5_readNumberBehind_0 hw k1) ⟨Or.inr rfl, Or.inr rfl, Or.inr rfl, Or.inr rfl, Or.inl rfl, trivial⟩)
theorem bX5_readNumberBehind_5 {E : px_E} {d : Nat} {w : pw_W} {Q : Option Value → pw_W → Prop} {t : ct_T} (hw : w.1 = cs t) {x2 x3 y0 : Int32}  
    (k1 : ¬ y0 = 0 → (pw_I w 17 4) = 2 → (pw_I w 17 5) < x2 → px_W E mX5_readNumberBehind (d + 1) 0 0 50 [.ref 16, .null, .null, .null, .null] [] w Q)
    (k2 : ¬ y0 = 0 → (pw_I w 17 4) = 2 → ¬ (pw_I w 17 5) < x2 → (pw_I w 17 5) ≤ x3 → px_Call E d 0 0 mX6_advance [.ref 17] w (fun v w' => px_W E mX5_readNumberBehind (d + 1) 0 0 74 [.null, .null, .null, .null, .int (pw_I w 17 5)] (v.toList ++ []) w' Q))
    (k3 : ¬ y0 = 0 → (pw_I w 17 4) = 2 → ¬ (pw_I w 17 5) < x2 → ¬ (pw_I w 17 5) ≤ x3 → px_W E mX5_readNumberBehind (d + 1) 0 0 50 [.ref 16, .null, .null, .null, .null] [] w Q)
    (k4 : ¬ y0 = 0 → ¬ (pw_I w 17 4) = 2 → px_Call E d 0 0 mX5_refuse [.ref 16] w (fun v w' => px_W E mX5_readNumberBehind (d + 1) 0 0 25 [.null, .null, .null, .null, .null] (v.toList ++ []) w' Q))
    (k5 : y0 = 0 → Q (some (.int (-1))) w) :
    px_W E mX5_readNumberBehind (d + 1) 0 0 5 [.ref 16, .null, .int x2, .int x3, .null] [.int y0] w Q := by
  refine px_if_ne (tgt := 10) dX5_readNumberBehind_5 (by decide) (fun h1 => ?_) (fun h1 => ?_)
  ·
    refine px_aload_n dX5_readNumberBehind_10 rfl rfl ?_
    refine px_getR (v := 17) dX5_readNumberBehind_11 fr_5_12 rfl (px_sh1 hw sh_16) (px_rf hw rf_16_0) (by decide) ?_
    refine px_getI dX5_readNumberBehind_14 fr_5_49 rfl (px_sh1 hw sh_17) ?_
    refine px_iconst dX5_readNumberBehind_17 ic_2 ?_
    refine px_icmp_eq (tgt := 28) dX5_readNumberBehind_18 (by decide) (fun h2 => ?_) (fun h2 => ?_)
    ·
      refine px_aload_n dX5_readNumberBehind_28 rfl rfl ?_
      refine px_getR (v := 17) dX5_readNumberBehind_29 fr_5_12 rfl (px_sh1 hw sh_16) (px_rf hw rf_16_0) (by decide) ?_
      refine px_getI dX5_readNumberBehind_32 fr_5_59 rfl (px_sh1 hw sh_17) ?_
      refine px_iload_n dX5_readNumberBehind_35 rfl rfl ?_
      refine px_icmp_lt (tgt := 50) dX5_readNumberBehind_36 (by decide) (fun h3 => ?_) (fun h3 => ?_)
      ·
        exact px_forget (k1 h1 h2 h3) ⟨Or.inr rfl, Or.inl rfl, Or.inl rfl, Or.inl rfl, Or.inl rfl, trivial⟩
      ·
        refine px_aload_n dX5_readNumberBehind_39 rfl rfl ?_
        refine px_getR (v := 17) dX5_readNumberBehind_40 fr_5_12 rfl (px_sh1 hw sh_16) (px_rf hw rf_16_0) (by decide) ?_
        refine px_getI dX5_readNumberBehind_43 fr_5_59 rfl (px_sh1 hw sh_17) ?_
        refine px_iload_n dX5_readNumberBehind_46 rfl rfl ?_
        refine px_icmp_le (tgt := 58) dX5_readNumberBehind_47 (by decide) (fun h4 => ?_) (fun h4 => ?_)
        ·
          refine px_aload_n dX5_readNumberBehind_58 rfl rfl ?_
          refine px_getR (v := 17) dX5_readNumberBehind_59 fr_5_12 rfl (px_sh1 hw sh_16) (px_rf hw rf_16_0) (by decide) ?_
          refine px_getI dX5_readNumberBehind_62 fr_5_59 rfl (px_sh1 hw sh_17) ?_
          refine px_istore (ls' := [.ref 16, .null, .int x2, .int x3, .int (pw_I w 17 5)]) dX5_readNumberBehind_65 ⟨by decide, rfl⟩ rfl ?_
          refine px_aload_n dX5_readNumberBehind_67 rfl rfl ?_
          refine px_getR (v := 17) dX5_readNumberBehind_68 fr_5_12 rfl (px_sh1 hw sh_16) (px_rf hw rf_16_0) (by decide) ?_
          refine px_forget (ls' := [.null, .null, .null, .null, .int (pw_I w 17 5)]) ?_ ⟨Or.inl rfl, Or.inl rfl, Or.inl rfl, Or.inl rfl, Or.inr rfl, trivial⟩
          exact px_callV (As := []) (st := []) (rc := 0) (rs := 0) (mc := 0) (ms := 0) dX5_readNumberBehind_71 lk_5_90 (px_sh1 hw sh_17) rfl rfl (Nat.le_of_ble_eq_true rfl) (k2 h1 h2 h3 h4)
        ·
          exact px_forget (k3 h1 h2 h3 h4) ⟨Or.inr rfl, Or.inl rfl, Or.inl rfl, Or.inl rfl, Or.inl rfl, trivial⟩
    ·
      refine px_aload_n dX5_readNumberBehind_21 rfl rfl ?_
      refine px_forget (ls' := [.null, .null, .null, .null, .null]) ?_ ⟨Or.inl rfl, Or.inl rfl, Or.inl rfl, Or.inl rfl, Or.inl rfl, trivial⟩
      exact px_callV (As := []) (st := []) (rc := 0) (rs := 0) (mc := 0) (ms := 0) dX5_readNumberBehind_22 lk_5_56 (px_sh1 hw sh_16) rfl rfl (Nat.le_of_ble_eq_true rfl) (k4 h1 h2)
  ·
    refine px_iconst dX5_readNumberBehind_8 ic_m1 ?_
    exact px_ireturn dX5_readNumberBehind_9 rfl rfl (k5 h1)
theorem bX5_readNumberBehind_25 {E : px_E} {d : Nat} {w : pw_W} {Q : Option Value → pw_W → Prop} {t : ct_T} (hw : w.1 = cs t) {y0 : Int32}  
    (k1 : Q (some (.int (-1))) w) :
    px_W E mX5_readNumberBehind (d + 1) 0 0 25 [.null, .null, .null, .null, .null] [.int y0] w Q := by
  refine px_pop dX5_readNumberBehind_25 rfl ?_
  refine px_iconst dX5_readNumberBehind_26 ic_m1 ?_
  exact px_ireturn dX5_readNumberBehind_27 rfl rfl k1
theorem bX5_readNumberBehind_50 {E : px_E} {d : Nat} {w : pw_W} {Q : Option Value → pw_W → Prop} {t : ct_T} (hw : w.1 = cs t)  
    (k1 : px_Call E d 0 0 mX5_setFault [.ref 16, .int 4] w (fun v w' => px_W E mX5_readNumberBehind (d + 1) 0 0 55 [.null, .null, .null, .null, .null] (v.toList ++ []) w' Q)) :
    px_W E mX5_readNumberBehind (d + 1) 0 0 50 [.ref 16, .null, .null, .null, .null] [] w Q := by
  refine px_aload_n dX5_readNumberBehind_50 rfl rfl ?_
  refine px_iconst dX5_readNumberBehind_51 ic_4 ?_
  refine px_forget (ls' := [.null, .null, .null, .null, .null]) ?_ ⟨Or.inl rfl, Or.inl rfl, Or.inl rfl, Or.inl rfl, Or.inl rfl, trivial⟩
  exact px_callV (As := [.int 4]) (st := []) (rc := 0) (rs := 0) (mc := 0) (ms := 0) dX5_readNumberBehind_52 lk_5_193 (px_sh1 hw sh_16) rfl rfl (Nat.le_of_ble_eq_true rfl) k1
theorem bX5_readNumberBehind_55 {E : px_E} {d : Nat} {w : pw_W} {Q : Option Value → pw_W → Prop} {t : ct_T} (hw : w.1 = cs t) {y0 : Int32}  
    (k1 : Q (some (.int (-1))) w) :
    px_W E mX5_readNumberBehind (d + 1) 0 0 55 [.null, .null, .null, .null, .null] [.int y0] w Q := by
  refine px_pop dX5_readNumberBehind_55 rfl ?_
  refine px_iconst dX5_readNumberBehind_56 ic_m1 ?_
  exact px_ireturn dX5_readNumberBehind_57 rfl rfl k1
theorem bX5_readNumberBehind_74 {E : px_E} {d : Nat} {w : pw_W} {Q : Option Value → pw_W → Prop} {t : ct_T} (hw : w.1 = cs t) {x4 : Int32}  
    (k1 : Q (some (.int x4)) w) :
    px_W E mX5_readNumberBehind (d + 1) 0 0 74 [.null, .null, .null, .null, .int x4] [] w Q := by
  refine px_iload dX5_readNumberBehind_74 rfl ?_
  exact px_ireturn dX5_readNumberBehind_76 rfl rfl k1
theorem dX5_readKeyword_0 : decode mX5_readKeyword.2.1 0 = .ok (.aload_n 0, 1) := by decide +kernel
theorem dX5_readKeyword_1 : decode mX5_readKeyword.2.1 1 = .ok (.getfield 12, 3) := by decide +kernel
theorem dX5_readKeyword_4 : decode mX5_readKeyword.2.1 4 = .ok (.iload_n 1, 1) := by decide +kernel
theorem dX5_readKeyword_5 : decode mX5_readKeyword.2.1 5 = .ok (.invokevirtual 107, 3) := by decide +kernel
theorem dX5_readKeyword_8 : decode mX5_readKeyword.2.1 8 = .ok (.ifCond .ne 8, 3) := by decide +kernel
theorem dX5_readKeyword_11 : decode mX5_readKeyword.2.1 11 = .ok (.aload_n 0, 1) := by decide +kernel
theorem dX5_readKeyword_12 : decode mX5_readKeyword.2.1 12 = .ok (.invokevirtual 56, 3) := by decide +kernel
theorem dX5_readKeyword_15 : decode mX5_readKeyword.2.1 15 = .ok (.ireturn, 1) := by decide +kernel
theorem dX5_readKeyword_16 : decode mX5_readKeyword.2.1 16 = .ok (.aload_n 0, 1) := by decide +kernel
theorem dX5_readKeyword_17 : decode mX5_readKeyword.2.1 17 = .ok (.getfield 12, 3) := by decide +kernel
theorem dX5_readKeyword_20 : decode mX5_readKeyword.2.1 20 = .ok (.invokevirtual 90, 3) := by decide +kernel
theorem dX5_readKeyword_23 : decode mX5_readKeyword.2.1 23 = .ok (.aload_n 0, 1) := by decide +kernel
theorem dX5_readKeyword_24 : decode mX5_readKeyword.2.1 24 = .ok (.getfield 39, 3) := by decide +kernel
theorem dX5_readKeyword_27 : decode mX5_readKeyword.2.1 27 = .ok (.ifCond .ne 7, 3) := by decide +kernel
theorem dX5_readKeyword_30 : decode mX5_readKeyword.2.1 30 = .ok (.iconst 1, 1) := by decide +kernel
theorem dX5_readKeyword_31 : decode mX5_readKeyword.2.1 31 = .ok (.goto 4, 3) := by decide +kernel
theorem dX5_readKeyword_34 : decode mX5_readKeyword.2.1 34 = .ok (.iconst 0, 1) := by decide +kernel
theorem dX5_readKeyword_35 : decode mX5_readKeyword.2.1 35 = .ok (.ireturn, 1) := by decide +kernel
theorem bX5_readKeyword_0 {E : px_E} {d : Nat} {w : pw_W} {Q : Option Value → pw_W → Prop} {t : ct_T} (hw : w.1 = cs t) {x1 : Int32}  
    (k1 : (pX6_isKeyword w x1) → px_Call E (d + 1) 0 0 mX6_advance [.ref 17] w (fun v w' => px_W E mX5_readKeyword (d + 2) 0 0 23 [.ref 16, .null] (v.toList ++ []) w' Q))
    (k2 : ¬ (pX6_isKeyword w x1) → px_Call E (d + 1) 0 0 mX5_refuse [.ref 16] w (fun v w' => px_W E mX5_readKeyword (d + 2) 0 0 15 [.null, .null] (v.toList ++ []) w' Q)) :
    px_W E mX5_readKeyword (d + 2) 0 0 0 [.ref 16, .int x1] [] w Q := by
  refine px_aload_n dX5_readKeyword_0 rfl rfl ?_
  refine px_getR (v := 17) dX5_readKeyword_1 fr_5_12 rfl (px_sh1 hw sh_16) (px_rf hw rf_16_0) (by decide) ?_
  refine px_iload_n dX5_readKeyword_4 rfl rfl ?_
  refine px_forget (ls' := [.ref 16, .null]) ?_ ⟨Or.inr rfl, Or.inl rfl, trivial⟩
  refine px_callV (As := [.int x1]) (st := []) (rc := 0) (rs := 0) (mc := 0) (ms := 0) dX5_readKeyword_5 lk_5_107 (px_sh1 hw sh_17) rfl rfl (Nat.le_of_ble_eq_true rfl) (sX6_isKeyword (w := w) hw ?_)
  show px_W E mX5_readKeyword (d + 2) 0 0 8 [.ref 16, .null] [.int (jb (pX6_isKeyword w x1))] w Q
  refine px_jb_ne (tgt := 16) dX5_readKeyword_8 (by decide) (fun h1 => ?_) (fun h1 => ?_)
  ·
    refine px_aload_n dX5_readKeyword_16 rfl rfl ?_
    refine px_getR (v := 17) dX5_readKeyword_17 fr_5_12 rfl (px_sh1 hw sh_16) (px_rf hw rf_16_0) (by decide) ?_
    exact px_callV (As := []) (st := []) (rc := 0) (rs := 0) (mc := 0) (ms := 0) dX5_readKeyword_20 lk_5_90 (px_sh1 hw sh_17) rfl rfl (Nat.le_of_ble_eq_true rfl) (k1 h1)
  ·
    refine px_aload_n dX5_readKeyword_11 rfl rfl ?_
    refine px_forget (ls' := [.null, .null]) ?_ ⟨Or.inl rfl, Or.inl rfl, trivial⟩
    exact px_callV (As := []) (st := []) (rc := 0) (rs := 0) (mc := 0) (ms := 0) dX5_readKeyword_12 lk_5_56 (px_sh1 hw sh_16) rfl rfl (Nat.le_of_ble_eq_true rfl) (k2 h1)
theorem eX5_readKeyword {E : px_E} {d : Nat} {w : pw_W} {Q : Option Value → pw_W → Prop} {t : ct_T} (hw : w.1 = cs t) {x1 : Int32}  
    (k1 : (pX6_isKeyword w x1) → px_Call E (d + 1) 0 0 mX6_advance [.ref 17] w (fun v w' => px_W E mX5_readKeyword (d + 2) 0 0 23 [.ref 16, .null] (v.toList ++ []) w' Q))
    (k2 : ¬ (pX6_isKeyword w x1) → px_Call E (d + 1) 0 0 mX5_refuse [.ref 16] w (fun v w' => px_W E mX5_readKeyword (d + 2) 0 0 15 [.null, .null] (v.toList ++ []) w' Q)) :
    px_Call E (d + 2) 0 0 mX5_readKeyword [.ref 16, .int x1] w Q :=
  px_enter (k := 0) (by decide) (Nat.le_of_ble_eq_true rfl) rfl (px_forget (bX5_readKeyword_0 hw k1 k2) ⟨Or.inr rfl, Or.inr rfl, trivial⟩)
theorem bX5_readKeyword_15 {E : px_E} {d : Nat} {w : pw_W} {Q : Option Value → pw_W → Prop} {t : ct_T} (hw : w.1 = cs t) {y0 : Int32}  (hb1 : y0 = 0 ∨ y0 = 1)
    (k1 : Q (some (.int y0)) w) :
    px_W E mX5_readKeyword (d + 2) 0 0 15 [.null, .null] [.int y0] w Q := by
  exact px_ireturn dX5_readKeyword_15 rfl (px_nb (hb1)) k1
theorem bX5_readKeyword_23 {E : px_E} {d : Nat} {w : pw_W} {Q : Option Value → pw_W → Prop} {t : ct_T} (hw : w.1 = cs t)  
    (k1 : ¬ (pw_I w 16 5) = 0 → px_W E mX5_readKeyword (d + 2) 0 0 35 [.null, .null] [.int 0] w Q)
    (k2 : (pw_I w 16 5) = 0 → px_W E mX5_readKeyword (d + 2) 0 0 35 [.null, .null] [.int 1] w Q) :
    px_W E mX5_readKeyword (d + 2) 0 0 23 [.ref 16, .null] [] w Q := by
  refine px_aload_n dX5_readKeyword_23 rfl rfl ?_
  refine px_getI dX5_readKeyword_24 fr_5_39 rfl (px_sh1 hw sh_16) ?_
  refine px_if_ne (tgt := 34) dX5_readKeyword_27 (by decide) (fun h1 => ?_) (fun h1 => ?_)
  ·
    refine px_iconst dX5_readKeyword_34 ic_0 ?_
    exact px_forget (k1 h1) ⟨Or.inl rfl, Or.inl rfl, trivial⟩
  ·
    refine px_iconst dX5_readKeyword_30 ic_1 ?_
    refine px_goto (tgt := 35) dX5_readKeyword_31 (by decide) ?_
    exact px_forget (k2 h1) ⟨Or.inl rfl, Or.inl rfl, trivial⟩
theorem bX5_readKeyword_35 {E : px_E} {d : Nat} {w : pw_W} {Q : Option Value → pw_W → Prop} {t : ct_T} (hw : w.1 = cs t) {y0 : Int32}  (hb1 : y0 = 0 ∨ y0 = 1)
    (k1 : Q (some (.int y0)) w) :
    px_W E mX5_readKeyword (d + 2) 0 0 35 [.null, .null] [.int y0] w Q := by
  exact px_ireturn dX5_readKeyword_35 rfl (px_nb (hb1)) k1
theorem dX5_readLineEnd_0 : decode mX5_readLineEnd.2.1 0 = .ok (.aload_n 0, 1) := by decide +kernel
theorem dX5_readLineEnd_1 : decode mX5_readLineEnd.2.1 1 = .ok (.getfield 12, 3) := by decide +kernel
theorem dX5_readLineEnd_4 : decode mX5_readLineEnd.2.1 4 = .ok (.bipush 59, 2) := by decide +kernel
theorem dX5_readLineEnd_6 : decode mX5_readLineEnd.2.1 6 = .ok (.invokevirtual 178, 3) := by decide +kernel
theorem dX5_readLineEnd_9 : decode mX5_readLineEnd.2.1 9 = .ok (.ifCond .ne 8, 3) := by decide +kernel
theorem dX5_readLineEnd_12 : decode mX5_readLineEnd.2.1 12 = .ok (.aload_n 0, 1) := by decide +kernel
theorem dX5_readLineEnd_13 : decode mX5_readLineEnd.2.1 13 = .ok (.invokevirtual 56, 3) := by decide +kernel
theorem dX5_readLineEnd_16 : decode mX5_readLineEnd.2.1 16 = .ok (.ireturn, 1) := by decide +kernel
theorem dX5_readLineEnd_17 : decode mX5_readLineEnd.2.1 17 = .ok (.aload_n 0, 1) := by decide +kernel
theorem dX5_readLineEnd_18 : decode mX5_readLineEnd.2.1 18 = .ok (.getfield 12, 3) := by decide +kernel
theorem dX5_readLineEnd_21 : decode mX5_readLineEnd.2.1 21 = .ok (.invokevirtual 90, 3) := by decide +kernel
theorem dX5_readLineEnd_24 : decode mX5_readLineEnd.2.1 24 = .ok (.aload_n 0, 1) := by decide +kernel
theorem dX5_readLineEnd_25 : decode mX5_readLineEnd.2.1 25 = .ok (.getfield 39, 3) := by decide +kernel
theorem dX5_readLineEnd_28 : decode mX5_readLineEnd.2.1 28 = .ok (.ifCond .ne 7, 3) := by decide +kernel
theorem dX5_readLineEnd_31 : decode mX5_readLineEnd.2.1 31 = .ok (.iconst 1, 1) := by decide +kernel
theorem dX5_readLineEnd_32 : decode mX5_readLineEnd.2.1 32 = .ok (.goto 4, 3) := by decide +kernel
theorem dX5_readLineEnd_35 : decode mX5_readLineEnd.2.1 35 = .ok (.iconst 0, 1) := by decide +kernel
theorem dX5_readLineEnd_36 : decode mX5_readLineEnd.2.1 36 = .ok (.ireturn, 1) := by decide +kernel
theorem bX5_readLineEnd_0 {E : px_E} {d : Nat} {w : pw_W} {Q : Option Value → pw_W → Prop} {t : ct_T} (hw : w.1 = cs t)  
    (k1 : (pX6_isSign w 59) → px_Call E (d + 1) 0 0 mX6_advance [.ref 17] w (fun v w' => px_W E mX5_readLineEnd (d + 2) 0 0 24 [.ref 16] (v.toList ++ []) w' Q))
    (k2 : ¬ (pX6_isSign w 59) → px_Call E (d + 1) 0 0 mX5_refuse [.ref 16] w (fun v w' => px_W E mX5_readLineEnd (d + 2) 0 0 16 [.null] (v.toList ++ []) w' Q)) :
    px_W E mX5_readLineEnd (d + 2) 0 0 0 [.ref 16] [] w Q := by
  refine px_aload_n dX5_readLineEnd_0 rfl rfl ?_
  refine px_getR (v := 17) dX5_readLineEnd_1 fr_5_12 rfl (px_sh1 hw sh_16) (px_rf hw rf_16_0) (by decide) ?_
  refine px_bipush dX5_readLineEnd_4 bp_59 ?_
  refine px_callV (As := [.int 59]) (st := []) (rc := 0) (rs := 0) (mc := 0) (ms := 0) dX5_readLineEnd_6 lk_5_178 (px_sh1 hw sh_17) rfl rfl (Nat.le_of_ble_eq_true rfl) (sX6_isSign (w := w) hw ?_)
  show px_W E mX5_readLineEnd (d + 2) 0 0 9 [.ref 16] [.int (jb (pX6_isSign w 59))] w Q
  refine px_jb_ne (tgt := 17) dX5_readLineEnd_9 (by decide) (fun h1 => ?_) (fun h1 => ?_)
  ·
    refine px_aload_n dX5_readLineEnd_17 rfl rfl ?_
    refine px_getR (v := 17) dX5_readLineEnd_18 fr_5_12 rfl (px_sh1 hw sh_16) (px_rf hw rf_16_0) (by decide) ?_
    exact px_callV (As := []) (st := []) (rc := 0) (rs := 0) (mc := 0) (ms := 0) dX5_readLineEnd_21 lk_5_90 (px_sh1 hw sh_17) rfl rfl (Nat.le_of_ble_eq_true rfl) (k1 h1)
  ·
    refine px_aload_n dX5_readLineEnd_12 rfl rfl ?_
    refine px_forget (ls' := [.null]) ?_ ⟨Or.inl rfl, trivial⟩
    exact px_callV (As := []) (st := []) (rc := 0) (rs := 0) (mc := 0) (ms := 0) dX5_readLineEnd_13 lk_5_56 (px_sh1 hw sh_16) rfl rfl (Nat.le_of_ble_eq_true rfl) (k2 h1)
theorem eX5_readLineEnd {E : px_E} {d : Nat} {w : pw_W} {Q : Option Value → pw_W → Prop} {t : ct_T} (hw : w.1 = cs t)  
    (k1 : (pX6_isSign w 59) → px_Call E (d + 1) 0 0 mX6_advance [.ref 17] w (fun v w' => px_W E mX5_readLineEnd (d + 2) 0 0 24 [.ref 16] (v.toList ++ []) w' Q))
    (k2 : ¬ (pX6_isSign w 59) → px_Call E (d + 1) 0 0 mX5_refuse [.ref 16] w (fun v w' => px_W E mX5_readLineEnd (d + 2) 0 0 16 [.null] (v.toList ++ []) w' Q)) :
    px_Call E (d + 2) 0 0 mX5_readLineEnd [.ref 16] w Q :=
  px_enter (k := 0) (by decide) (Nat.le_of_ble_eq_true rfl) rfl (px_forget (bX5_readLineEnd_0 hw k1 k2) ⟨Or.inr rfl, trivial⟩)
theorem bX5_readLineEnd_16 {E : px_E} {d : Nat} {w : pw_W} {Q : Option Value → pw_W → Prop} {t : ct_T} (hw : w.1 = cs t) {y0 : Int32}  (hb1 : y0 = 0 ∨ y0 = 1)
    (k1 : Q (some (.int y0)) w) :
    px_W E mX5_readLineEnd (d + 2) 0 0 16 [.null] [.int y0] w Q := by
  exact px_ireturn dX5_readLineEnd_16 rfl (px_nb (hb1)) k1
theorem bX5_readLineEnd_24 {E : px_E} {d : Nat} {w : pw_W} {Q : Option Value → pw_W → Prop} {t : ct_T} (hw : w.1 = cs t)  
    (k1 : ¬ (pw_I w 16 5) = 0 → px_W E mX5_readLineEnd (d + 2) 0 0 36 [.null] [.int 0] w Q)
    (k2 : (pw_I w 16 5) = 0 → px_W E mX5_readLineEnd (d + 2) 0 0 36 [.null] [.int 1] w Q) :
    px_W E mX5_readLineEnd (d + 2) 0 0 24 [.ref 16] [] w Q := by
  refine px_aload_n dX5_readLineEnd_24 rfl rfl ?_
  refine px_getI dX5_readLineEnd_25 fr_5_39 rfl (px_sh1 hw sh_16) ?_
  refine px_if_ne (tgt := 35) dX5_readLineEnd_28 (by decide) (fun h1 => ?_) (fun h1 => ?_)
  ·
    refine px_iconst dX5_readLineEnd_35 ic_0 ?_
    exact px_forget (k1 h1) ⟨Or.inl rfl, trivial⟩
  ·
    refine px_iconst dX5_readLineEnd_31 ic_1 ?_
    refine px_goto (tgt := 36) dX5_readLineEnd_32 (by decide) ?_
    exact px_forget (k2 h1) ⟨Or.inl rfl, trivial⟩
theorem bX5_readLineEnd_36 {E : px_E} {d : Nat} {w : pw_W} {Q : Option Value → pw_W → Prop} {t : ct_T} (hw : w.1 = cs t) {y0 : Int32}  (hb1 : y0 = 0 ∨ y0 = 1)
    (k1 : Q (some (.int y0)) w) :
    px_W E mX5_readLineEnd (d + 2) 0 0 36 [.null] [.int y0] w Q := by
  exact px_ireturn dX5_readLineEnd_36 rfl (px_nb (hb1)) k1
theorem dX5_refuse_0 : decode mX5_refuse.2.1 0 = .ok (.aload_n 0, 1) := by decide +kernel
theorem dX5_refuse_1 : decode mX5_refuse.2.1 1 = .ok (.aload_n 0, 1) := by decide +kernel
theorem dX5_refuse_2 : decode mX5_refuse.2.1 2 = .ok (.getfield 12, 3) := by decide +kernel
theorem dX5_refuse_5 : decode mX5_refuse.2.1 5 = .ok (.getfield 49, 3) := by decide +kernel
theorem dX5_refuse_8 : decode mX5_refuse.2.1 8 = .ok (.iconst 1, 1) := by decide +kernel
theorem dX5_refuse_9 : decode mX5_refuse.2.1 9 = .ok (.if_icmp .ne 7, 3) := by decide +kernel
theorem dX5_refuse_12 : decode mX5_refuse.2.1 12 = .ok (.iconst 1, 1) := by decide +kernel
theorem dX5_refuse_13 : decode mX5_refuse.2.1 13 = .ok (.goto 4, 3) := by decide +kernel
theorem dX5_refuse_16 : decode mX5_refuse.2.1 16 = .ok (.iconst 2, 1) := by decide +kernel
theorem dX5_refuse_17 : decode mX5_refuse.2.1 17 = .ok (.invokevirtual 193, 3) := by decide +kernel
theorem dX5_refuse_20 : decode mX5_refuse.2.1 20 = .ok (.ireturn, 1) := by decide +kernel
theorem bX5_refuse_0 {E : px_E} {d : Nat} {w : pw_W} {Q : Option Value → pw_W → Prop} {t : ct_T} (hw : w.1 = cs t)  
    (k1 : ¬ (pw_I w 17 4) = 1 → px_W E mX5_refuse (d + 1) 0 0 17 [.null] [.int 2, .ref 16] w Q)
    (k2 : (pw_I w 17 4) = 1 → px_W E mX5_refuse (d + 1) 0 0 17 [.null] [.int 1, .ref 16] w Q) :
    px_W E mX5_refuse (d + 1) 0 0 0 [.ref 16] [] w Q := by
  refine px_aload_n dX5_refuse_0 rfl rfl ?_
  refine px_aload_n dX5_refuse_1 rfl rfl ?_
  refine px_getR (v := 17) dX5_refuse_2 fr_5_12 rfl (px_sh1 hw sh_16) (px_rf hw rf_16_0) (by decide) ?_
  refine px_getI dX5_refuse_5 fr_5_49 rfl (px_sh1 hw sh_17) ?_
  refine px_iconst dX5_refuse_8 ic_1 ?_
  refine px_icmp_ne (tgt := 16) dX5_refuse_9 (by decide) (fun h1 => ?_) (fun h1 => ?_)
  ·
    refine px_iconst dX5_refuse_16 ic_2 ?_
    exact px_forget (k1 h1) ⟨Or.inl rfl, trivial⟩
  ·
    refine px_iconst dX5_refuse_12 ic_1 ?_
    refine px_goto (tgt := 17) dX5_refuse_13 (by decide) ?_
    exact px_forget (k2 h1) ⟨Or.inl rfl, trivial⟩
theorem eX5_refuse {E : px_E} {d : Nat} {w : pw_W} {Q : Option Value → pw_W → Prop} {t : ct_T} (hw : w.1 = cs t)  
    (k1 : ¬ (pw_I w 17 4) = 1 → px_W E mX5_refuse (d + 1) 0 0 17 [.null] [.int 2, .ref 16] w Q)
    (k2 : (pw_I w 17 4) = 1 → px_W E mX5_refuse (d + 1) 0 0 17 [.null] [.int 1, .ref 16] w Q) :
    px_Call E (d + 1) 0 0 mX5_refuse [.ref 16] w Q :=
  px_enter (k := 0) (by decide) (Nat.le_of_ble_eq_true rfl) rfl (px_forget (bX5_refuse_0 hw k1 k2) ⟨Or.inr rfl, trivial⟩)
theorem bX5_refuse_17 {E : px_E} {d : Nat} {w : pw_W} {Q : Option Value → pw_W → Prop} {t : ct_T} (hw : w.1 = cs t) {y1 : Int32}  
    (k1 : px_Call E d 0 0 mX5_setFault [.ref 16, .int y1] w (fun v w' => px_W E mX5_refuse (d + 1) 0 0 20 [.null] (v.toList ++ []) w' Q)) :
    px_W E mX5_refuse (d + 1) 0 0 17 [.null] [.int y1, .ref 16] w Q := by
  exact px_callV (As := [.int y1]) (st := []) (rc := 0) (rs := 0) (mc := 0) (ms := 0) dX5_refuse_17 lk_5_193 (px_sh1 hw sh_16) rfl rfl (Nat.le_of_ble_eq_true rfl) k1
theorem bX5_refuse_20 {E : px_E} {d : Nat} {w : pw_W} {Q : Option Value → pw_W → Prop} {t : ct_T} (hw : w.1 = cs t) {y0 : Int32}  (hb1 : y0 = 0 ∨ y0 = 1)
    (k1 : Q (some (.int y0)) w) :
    px_W E mX5_refuse (d + 1) 0 0 20 [.null] [.int y0] w Q := by
  exact px_ireturn dX5_refuse_20 rfl (px_nb (hb1)) k1
theorem dX5_setFault_0 : decode mX5_setFault.2.1 0 = .ok (.aload_n 0, 1) := by decide +kernel
theorem dX5_setFault_1 : decode mX5_setFault.2.1 1 = .ok (.getfield 39, 3) := by decide +kernel
theorem dX5_setFault_4 : decode mX5_setFault.2.1 4 = .ok (.ifCond .ne 19, 3) := by decide +kernel
theorem dX5_setFault_7 : decode mX5_setFault.2.1 7 = .ok (.aload_n 0, 1) := by decide +kernel
theorem dX5_setFault_8 : decode mX5_setFault.2.1 8 = .ok (.iload_n 1, 1) := by decide +kernel
theorem dX5_setFault_9 : decode mX5_setFault.2.1 9 = .ok (.putfield 39, 3) := by decide +kernel
theorem dX5_setFault_12 : decode mX5_setFault.2.1 12 = .ok (.aload_n 0, 1) := by decide +kernel
theorem dX5_setFault_13 : decode mX5_setFault.2.1 13 = .ok (.aload_n 0, 1) := by decide +kernel
theorem dX5_setFault_14 : decode mX5_setFault.2.1 14 = .ok (.getfield 12, 3) := by decide +kernel
theorem dX5_setFault_17 : decode mX5_setFault.2.1 17 = .ok (.getfield 200, 3) := by decide +kernel
theorem dX5_setFault_20 : decode mX5_setFault.2.1 20 = .ok (.putfield 42, 3) := by decide +kernel
theorem dX5_setFault_23 : decode mX5_setFault.2.1 23 = .ok (.iconst 0, 1) := by decide +kernel
theorem dX5_setFault_24 : decode mX5_setFault.2.1 24 = .ok (.ireturn, 1) := by decide +kernel
theorem bX5_setFault_0 {E : px_E} {d : Nat} {w : pw_W} {Q : Option Value → pw_W → Prop} {t : ct_T} (hw : w.1 = cs t) {x1 : Int32}  
    (k1 : ¬ (pw_I w 16 5) = 0 → px_W E mX5_setFault (d + 1) 0 0 23 [.null, .null] [] w Q)
    (k2 : (pw_I w 16 5) = 0 → px_W E mX5_setFault (d + 1) 0 0 23 [.null, .null] [] (pw_sI (pw_sI w 16 5 x1) 16 6 (pw_I w 17 7)) Q) :
    px_W E mX5_setFault (d + 1) 0 0 0 [.ref 16, .int x1] [] w Q := by
  refine px_aload_n dX5_setFault_0 rfl rfl ?_
  refine px_getI dX5_setFault_1 fr_5_39 rfl (px_sh1 hw sh_16) ?_
  refine px_if_ne (tgt := 23) dX5_setFault_4 (by decide) (fun h1 => ?_) (fun h1 => ?_)
  ·
    exact px_forget (k1 h1) ⟨Or.inl rfl, Or.inl rfl, trivial⟩
  ·
    refine px_aload_n dX5_setFault_7 rfl rfl ?_
    refine px_iload_n dX5_setFault_8 rfl rfl ?_
    refine px_putI dX5_setFault_9 fl_5_39 (Or.inl rfl) rfl (px_sh1 hw sh_16) rfl rfl (by omega) ?_
    refine px_aload_n dX5_setFault_12 rfl rfl ?_
    refine px_aload_n dX5_setFault_13 rfl rfl ?_
    refine px_getR (v := 17) dX5_setFault_14 fr_5_12 rfl (px_sh1 (hI hw) sh_16) (px_rf (hI hw) rf_16_0) (by decide) ?_
    refine px_getIv (v := (pw_I w 17 7)) dX5_setFault_17 fr_5_200 rfl (px_sh1 (hI hw) sh_17) rfl ?_
    refine px_putI dX5_setFault_20 fl_5_42 (Or.inl rfl) rfl (px_sh1 (hI hw) sh_16) rfl rfl (by omega) ?_
    exact px_forget (k2 h1) ⟨Or.inl rfl, Or.inl rfl, trivial⟩
theorem eX5_setFault {E : px_E} {d : Nat} {w : pw_W} {Q : Option Value → pw_W → Prop} {t : ct_T} (hw : w.1 = cs t) {x1 : Int32}  
    (k1 : ¬ (pw_I w 16 5) = 0 → px_W E mX5_setFault (d + 1) 0 0 23 [.null, .null] [] w Q)
    (k2 : (pw_I w 16 5) = 0 → px_W E mX5_setFault (d + 1) 0 0 23 [.null, .null] [] (pw_sI (pw_sI w 16 5 x1) 16 6 (pw_I w 17 7)) Q) :
    px_Call E (d + 1) 0 0 mX5_setFault [.ref 16, .int x1] w Q :=
  px_enter (k := 0) (by decide) (Nat.le_of_ble_eq_true rfl) rfl (px_forget (bX5_setFault_0 hw k1 k2) ⟨Or.inr rfl, Or.inr rfl, trivial⟩)
theorem bX5_setFault_23 {E : px_E} {d : Nat} {w : pw_W} {Q : Option Value → pw_W → Prop} {t : ct_T} (hw : w.1 = cs t)  
    (k1 : Q (some (.int 0)) w) :
    px_W E mX5_setFault (d + 1) 0 0 23 [.null, .null] [] w Q := by
  refine px_iconst dX5_setFault_23 ic_0 ?_
  exact px_ireturn dX5_setFault_24 rfl (by decide) k1
theorem dX6_begin_0 : decode mX6_begin.2.1 0 = .ok (.aload_n 0, 1) := by decide +kernel
theorem dX6_begin_1 : decode mX6_begin.2.1 1 = .ok (.aload_n 1, 1) := by decide +kernel
theorem dX6_begin_2 : decode mX6_begin.2.1 2 = .ok (.putfield 13, 3) := by decide +kernel
theorem dX6_begin_5 : decode mX6_begin.2.1 5 = .ok (.aload_n 0, 1) := by decide +kernel
theorem dX6_begin_6 : decode mX6_begin.2.1 6 = .ok (.iload_n 2, 1) := by decide +kernel
theorem dX6_begin_7 : decode mX6_begin.2.1 7 = .ok (.aload_n 1, 1) := by decide +kernel
theorem dX6_begin_8 : decode mX6_begin.2.1 8 = .ok (.arraylength, 1) := by decide +kernel
theorem dX6_begin_9 : decode mX6_begin.2.1 9 = .ok (.invokestatic 33, 3) := by decide +kernel
theorem dX6_begin_12 : decode mX6_begin.2.1 12 = .ok (.putfield 39, 3) := by decide +kernel
theorem dX6_begin_15 : decode mX6_begin.2.1 15 = .ok (.aload_n 0, 1) := by decide +kernel
theorem dX6_begin_16 : decode mX6_begin.2.1 16 = .ok (.iconst 0, 1) := by decide +kernel
theorem dX6_begin_17 : decode mX6_begin.2.1 17 = .ok (.putfield 42, 3) := by decide +kernel
theorem dX6_begin_20 : decode mX6_begin.2.1 20 = .ok (.aload_n 0, 1) := by decide +kernel
theorem dX6_begin_21 : decode mX6_begin.2.1 21 = .ok (.invokevirtual 45, 3) := by decide +kernel
theorem dX6_begin_24 : decode mX6_begin.2.1 24 = .ok (.return_, 1) := by decide +kernel
theorem bX6_begin_0 {E : px_E} {d : Nat} {w : pw_W} {Q : Option Value → pw_W → Prop} {t : ct_T} (hw : w.1 = cs t) {x2 : Int32} {r1 n1 : Nat} (hs1 : (cs t).2.1 r1 = (101, n1)) (hn1 : n1 < 2 ^ 31) (hnehs1 : r1 ≠ 0) 
    (k1 : px_W E mX6_begin (d + 1) 0 0 15 [.ref 17, .null, .null] [] (pw_sI (pw_sR w 17 1 r1) 17 2 (js_min x2 (nI n1))) Q) :
    px_W E mX6_begin (d + 1) 0 0 0 [.ref 17, .ref r1, .int x2] [] w Q := by
  refine px_aload_n dX6_begin_0 rfl rfl ?_
  refine px_aload_n dX6_begin_1 rfl rfl ?_
  refine px_putR dX6_begin_2 fl_6_13 (Or.inl rfl) rfl (px_sh1 hw sh_17) (hnehs1) (by omega) ?_
  refine px_aload_n dX6_begin_5 rfl rfl ?_
  refine px_iload_n dX6_begin_6 rfl rfl ?_
  refine px_aload_n dX6_begin_7 rfl rfl ?_
  refine px_alen dX6_begin_8 (px_sh2 (cs_sR_17_1 hw) hs1) (by decide) rfl ?_
  refine px_mmin dX6_begin_9 (px_in3 14 rfl rfl) (Nat.le_of_ble_eq_true rfl) (by omega) ?_
  refine px_putI dX6_begin_12 fl_6_39 (Or.inl rfl) rfl (px_sh1 (cs_sR_17_1 hw) sh_17) rfl rfl (by omega) ?_
  exact px_forget k1 ⟨Or.inr rfl, Or.inl rfl, Or.inl rfl, trivial⟩
theorem eX6_begin {E : px_E} {d : Nat} {w : pw_W} {Q : Option Value → pw_W → Prop} {t : ct_T} (hw : w.1 = cs t) {x2 : Int32} {r1 n1 : Nat} (hs1 : (cs t).2.1 r1 = (101, n1)) (hn1 : n1 < 2 ^ 31) (hnehs1 : r1 ≠ 0) 
    (k1 : px_W E mX6_begin (d + 1) 0 0 15 [.ref 17, .null, .null] [] (pw_sI (pw_sR w 17 1 r1) 17 2 (js_min x2 (nI n1))) Q) :
    px_Call E (d + 1) 0 0 mX6_begin [.ref 17, .ref r1, .int x2] w Q :=
  px_enter (k := 0) (by decide) (Nat.le_of_ble_eq_true rfl) rfl (px_forget (bX6_begin_0 hw hs1 hn1 hnehs1 k1) ⟨Or.inr rfl, Or.inr rfl, Or.inr rfl, trivial⟩)
theorem bX6_begin_15 {E : px_E} {d : Nat} {w : pw_W} {Q : Option Value → pw_W → Prop} {t : ct_T} (hw : w.1 = cs t) {r1 n1 : Nat} (hs1 : (cs t).2.1 r1 = (101, n1)) (hn1 : n1 < 2 ^ 31) (hnehs1 : r1 ≠ 0) 
    (k1 : px_Call E d 0 0 mX6_advance [.ref 17] (pw_sI w 17 3 0) (fun v w' => px_W E mX6_begin (d + 1) 0 0 24 [.null, .null, .null] (v.toList ++ []) w' Q)) :
    px_W E mX6_begin (d + 1) 0 0 15 [.ref 17, .null, .null] [] w Q := by
  refine px_aload_n dX6_begin_15 rfl rfl ?_
  refine px_iconst dX6_begin_16 ic_0 ?_
  refine px_putI dX6_begin_17 fl_6_42 (Or.inl rfl) rfl (px_sh1 hw sh_17) rfl rfl (by omega) ?_
  refine px_aload_n dX6_begin_20 rfl rfl ?_
  refine px_forget (ls' := [.null, .null, .null]) ?_ ⟨Or.inl rfl, Or.inl rfl, Or.inl rfl, trivial⟩
  exact px_callV (As := []) (st := []) (rc := 0) (rs := 0) (mc := 0) (ms := 0) dX6_begin_21 lk_6_45 (px_sh1 (hI hw) sh_17) rfl rfl (Nat.le_of_ble_eq_true rfl) k1
theorem bX6_begin_24 {E : px_E} {d : Nat} {w : pw_W} {Q : Option Value → pw_W → Prop} {t : ct_T} (hw : w.1 = cs t) {r1 n1 : Nat} (hs1 : (cs t).2.1 r1 = (101, n1)) (hn1 : n1 < 2 ^ 31) (hnehs1 : r1 ≠ 0) 
    (k1 : Q none w) :
    px_W E mX6_begin (d + 1) 0 0 24 [.null, .null, .null] [] w Q := by
  exact px_return dX6_begin_24 rfl k1
theorem dX6_advance_0 : decode mX6_advance.2.1 0 = .ok (.aload_n 0, 1) := by decide +kernel
theorem dX6_advance_1 : decode mX6_advance.2.1 1 = .ok (.getfield 42, 3) := by decide +kernel
theorem dX6_advance_4 : decode mX6_advance.2.1 4 = .ok (.aload_n 0, 1) := by decide +kernel
theorem dX6_advance_5 : decode mX6_advance.2.1 5 = .ok (.getfield 39, 3) := by decide +kernel
theorem dX6_advance_8 : decode mX6_advance.2.1 8 = .ok (.if_icmp .ge 44, 3) := by decide +kernel
theorem dX6_advance_11 : decode mX6_advance.2.1 11 = .ok (.aload_n 0, 1) := by decide +kernel
theorem dX6_advance_12 : decode mX6_advance.2.1 12 = .ok (.getfield 13, 3) := by decide +kernel
theorem dX6_advance_15 : decode mX6_advance.2.1 15 = .ok (.aload_n 0, 1) := by decide +kernel
theorem dX6_advance_16 : decode mX6_advance.2.1 16 = .ok (.getfield 42, 3) := by decide +kernel
theorem dX6_advance_19 : decode mX6_advance.2.1 19 = .ok (.baload, 1) := by decide +kernel
theorem dX6_advance_20 : decode mX6_advance.2.1 20 = .ok (.bipush 32, 2) := by decide +kernel
theorem dX6_advance_22 : decode mX6_advance.2.1 22 = .ok (.if_icmp .eq 17, 3) := by decide +kernel
theorem dX6_advance_25 : decode mX6_advance.2.1 25 = .ok (.aload_n 0, 1) := by decide +kernel
theorem dX6_advance_26 : decode mX6_advance.2.1 26 = .ok (.getfield 13, 3) := by decide +kernel
theorem dX6_advance_29 : decode mX6_advance.2.1 29 = .ok (.aload_n 0, 1) := by decide +kernel
theorem dX6_advance_30 : decode mX6_advance.2.1 30 = .ok (.getfield 42, 3) := by decide +kernel
theorem dX6_advance_33 : decode mX6_advance.2.1 33 = .ok (.baload, 1) := by decide +kernel
theorem dX6_advance_34 : decode mX6_advance.2.1 34 = .ok (.bipush 10, 2) := by decide +kernel
theorem dX6_advance_36 : decode mX6_advance.2.1 36 = .ok (.if_icmp .ne 16, 3) := by decide +kernel
theorem dX6_advance_39 : decode mX6_advance.2.1 39 = .ok (.aload_n 0, 1) := by decide +kernel
theorem dX6_advance_40 : decode mX6_advance.2.1 40 = .ok (.dup, 1) := by decide +kernel
theorem dX6_advance_41 : decode mX6_advance.2.1 41 = .ok (.getfield 42, 3) := by decide +kernel
theorem dX6_advance_44 : decode mX6_advance.2.1 44 = .ok (.iconst 1, 1) := by decide +kernel
theorem dX6_advance_45 : decode mX6_advance.2.1 45 = .ok (.iadd, 1) := by decide +kernel
theorem dX6_advance_46 : decode mX6_advance.2.1 46 = .ok (.putfield 42, 3) := by decide +kernel
theorem dX6_advance_49 : decode mX6_advance.2.1 49 = .ok (.goto (-49), 3) := by decide +kernel
theorem dX6_advance_52 : decode mX6_advance.2.1 52 = .ok (.aload_n 0, 1) := by decide +kernel
theorem dX6_advance_53 : decode mX6_advance.2.1 53 = .ok (.aload_n 0, 1) := by decide +kernel
theorem dX6_advance_54 : decode mX6_advance.2.1 54 = .ok (.getfield 42, 3) := by decide +kernel
theorem dX6_advance_57 : decode mX6_advance.2.1 57 = .ok (.putfield 48, 3) := by decide +kernel
theorem dX6_advance_60 : decode mX6_advance.2.1 60 = .ok (.aload_n 0, 1) := by decide +kernel
theorem dX6_advance_61 : decode mX6_advance.2.1 61 = .ok (.lconst 0, 1) := by decide +kernel
theorem dX6_advance_62 : decode mX6_advance.2.1 62 = .ok (.putfield 51, 3) := by decide +kernel
theorem dX6_advance_65 : decode mX6_advance.2.1 65 = .ok (.aload_n 0, 1) := by decide +kernel
theorem dX6_advance_66 : decode mX6_advance.2.1 66 = .ok (.getfield 42, 3) := by decide +kernel
theorem dX6_advance_69 : decode mX6_advance.2.1 69 = .ok (.aload_n 0, 1) := by decide +kernel
theorem dX6_advance_70 : decode mX6_advance.2.1 70 = .ok (.getfield 39, 3) := by decide +kernel
theorem dX6_advance_73 : decode mX6_advance.2.1 73 = .ok (.if_icmp .ge 64, 3) := by decide +kernel
theorem dX6_advance_76 : decode mX6_advance.2.1 76 = .ok (.aload_n 0, 1) := by decide +kernel
theorem dX6_advance_77 : decode mX6_advance.2.1 77 = .ok (.getfield 13, 3) := by decide +kernel
theorem dX6_advance_80 : decode mX6_advance.2.1 80 = .ok (.aload_n 0, 1) := by decide +kernel
theorem dX6_advance_81 : decode mX6_advance.2.1 81 = .ok (.getfield 42, 3) := by decide +kernel
theorem dX6_advance_84 : decode mX6_advance.2.1 84 = .ok (.baload, 1) := by decide +kernel
theorem dX6_advance_85 : decode mX6_advance.2.1 85 = .ok (.bipush 97, 2) := by decide +kernel
theorem dX6_advance_87 : decode mX6_advance.2.1 87 = .ok (.if_icmp .lt 50, 3) := by decide +kernel
theorem dX6_advance_90 : decode mX6_advance.2.1 90 = .ok (.aload_n 0, 1) := by decide +kernel
theorem dX6_advance_91 : decode mX6_advance.2.1 91 = .ok (.getfield 13, 3) := by decide +kernel
theorem dX6_advance_94 : decode mX6_advance.2.1 94 = .ok (.aload_n 0, 1) := by decide +kernel
theorem dX6_advance_95 : decode mX6_advance.2.1 95 = .ok (.getfield 42, 3) := by decide +kernel
theorem dX6_advance_98 : decode mX6_advance.2.1 98 = .ok (.baload, 1) := by decide +kernel
theorem dX6_advance_99 : decode mX6_advance.2.1 99 = .ok (.bipush 122, 2) := by decide +kernel
theorem dX6_advance_101 : decode mX6_advance.2.1 101 = .ok (.if_icmp .gt 36, 3) := by decide +kernel
theorem dX6_advance_104 : decode mX6_advance.2.1 104 = .ok (.aload_n 0, 1) := by decide +kernel
theorem dX6_advance_105 : decode mX6_advance.2.1 105 = .ok (.aload_n 0, 1) := by decide +kernel
theorem dX6_advance_106 : decode mX6_advance.2.1 106 = .ok (.getfield 51, 3) := by decide +kernel
theorem dX6_advance_109 : decode mX6_advance.2.1 109 = .ok (.aload_n 0, 1) := by decide +kernel
theorem dX6_advance_110 : decode mX6_advance.2.1 110 = .ok (.getfield 13, 3) := by decide +kernel
theorem dX6_advance_113 : decode mX6_advance.2.1 113 = .ok (.aload_n 0, 1) := by decide +kernel
theorem dX6_advance_114 : decode mX6_advance.2.1 114 = .ok (.getfield 42, 3) := by decide +kernel
theorem dX6_advance_117 : decode mX6_advance.2.1 117 = .ok (.baload, 1) := by decide +kernel
theorem dX6_advance_118 : decode mX6_advance.2.1 118 = .ok (.invokestatic 29, 3) := by decide +kernel
theorem dX6_advance_121 : decode mX6_advance.2.1 121 = .ok (.putfield 51, 3) := by decide +kernel
theorem dX6_advance_124 : decode mX6_advance.2.1 124 = .ok (.aload_n 0, 1) := by decide +kernel
theorem dX6_advance_125 : decode mX6_advance.2.1 125 = .ok (.dup, 1) := by decide +kernel
theorem dX6_advance_126 : decode mX6_advance.2.1 126 = .ok (.getfield 42, 3) := by decide +kernel
theorem dX6_advance_129 : decode mX6_advance.2.1 129 = .ok (.iconst 1, 1) := by decide +kernel
theorem dX6_advance_130 : decode mX6_advance.2.1 130 = .ok (.iadd, 1) := by decide +kernel
theorem dX6_advance_131 : decode mX6_advance.2.1 131 = .ok (.putfield 42, 3) := by decide +kernel
theorem dX6_advance_134 : decode mX6_advance.2.1 134 = .ok (.goto (-69), 3) := by decide +kernel
theorem dX6_advance_137 : decode mX6_advance.2.1 137 = .ok (.aload_n 0, 1) := by decide +kernel
theorem dX6_advance_138 : decode mX6_advance.2.1 138 = .ok (.getfield 42, 3) := by decide +kernel
theorem dX6_advance_141 : decode mX6_advance.2.1 141 = .ok (.aload_n 0, 1) := by decide +kernel
theorem dX6_advance_142 : decode mX6_advance.2.1 142 = .ok (.getfield 48, 3) := by decide +kernel
theorem dX6_advance_145 : decode mX6_advance.2.1 145 = .ok (.if_icmp .le 8, 3) := by decide +kernel
theorem dX6_advance_148 : decode mX6_advance.2.1 148 = .ok (.aload_n 0, 1) := by decide +kernel
theorem dX6_advance_149 : decode mX6_advance.2.1 149 = .ok (.invokevirtual 55, 3) := by decide +kernel
theorem dX6_advance_152 : decode mX6_advance.2.1 152 = .ok (.return_, 1) := by decide +kernel
theorem dX6_advance_153 : decode mX6_advance.2.1 153 = .ok (.aload_n 0, 1) := by decide +kernel
theorem dX6_advance_154 : decode mX6_advance.2.1 154 = .ok (.iconst 0, 1) := by decide +kernel
theorem dX6_advance_155 : decode mX6_advance.2.1 155 = .ok (.putfield 58, 3) := by decide +kernel
theorem dX6_advance_158 : decode mX6_advance.2.1 158 = .ok (.aload_n 0, 1) := by decide +kernel
theorem dX6_advance_159 : decode mX6_advance.2.1 159 = .ok (.getfield 42, 3) := by decide +kernel
theorem dX6_advance_162 : decode mX6_advance.2.1 162 = .ok (.aload_n 0, 1) := by decide +kernel
theorem dX6_advance_163 : decode mX6_advance.2.1 163 = .ok (.getfield 39, 3) := by decide +kernel
theorem dX6_advance_166 : decode mX6_advance.2.1 166 = .ok (.if_icmp .ge 68, 3) := by decide +kernel
theorem dX6_advance_169 : decode mX6_advance.2.1 169 = .ok (.aload_n 0, 1) := by decide +kernel
theorem dX6_advance_170 : decode mX6_advance.2.1 170 = .ok (.getfield 13, 3) := by decide +kernel
theorem dX6_advance_173 : decode mX6_advance.2.1 173 = .ok (.aload_n 0, 1) := by decide +kernel
theorem dX6_advance_174 : decode mX6_advance.2.1 174 = .ok (.getfield 42, 3) := by decide +kernel
theorem dX6_advance_177 : decode mX6_advance.2.1 177 = .ok (.baload, 1) := by decide +kernel
theorem dX6_advance_178 : decode mX6_advance.2.1 178 = .ok (.bipush 48, 2) := by decide +kernel
theorem dX6_advance_180 : decode mX6_advance.2.1 180 = .ok (.if_icmp .lt 54, 3) := by decide +kernel
theorem dX6_advance_183 : decode mX6_advance.2.1 183 = .ok (.aload_n 0, 1) := by decide +kernel
theorem dX6_advance_184 : decode mX6_advance.2.1 184 = .ok (.getfield 13, 3) := by decide +kernel
theorem dX6_advance_187 : decode mX6_advance.2.1 187 = .ok (.aload_n 0, 1) := by decide +kernel
theorem dX6_advance_188 : decode mX6_advance.2.1 188 = .ok (.getfield 42, 3) := by decide +kernel
theorem dX6_advance_191 : decode mX6_advance.2.1 191 = .ok (.baload, 1) := by decide +kernel
theorem dX6_advance_192 : decode mX6_advance.2.1 192 = .ok (.bipush 57, 2) := by decide +kernel
theorem dX6_advance_194 : decode mX6_advance.2.1 194 = .ok (.if_icmp .gt 40, 3) := by decide +kernel
theorem dX6_advance_197 : decode mX6_advance.2.1 197 = .ok (.aload_n 0, 1) := by decide +kernel
theorem dX6_advance_198 : decode mX6_advance.2.1 198 = .ok (.aload_n 0, 1) := by decide +kernel
theorem dX6_advance_199 : decode mX6_advance.2.1 199 = .ok (.getfield 58, 3) := by decide +kernel
theorem dX6_advance_202 : decode mX6_advance.2.1 202 = .ok (.bipush 10, 2) := by decide +kernel
theorem dX6_advance_204 : decode mX6_advance.2.1 204 = .ok (.imul, 1) := by decide +kernel
theorem dX6_advance_205 : decode mX6_advance.2.1 205 = .ok (.aload_n 0, 1) := by decide +kernel
theorem dX6_advance_206 : decode mX6_advance.2.1 206 = .ok (.getfield 13, 3) := by decide +kernel
theorem dX6_advance_209 : decode mX6_advance.2.1 209 = .ok (.aload_n 0, 1) := by decide +kernel
theorem dX6_advance_210 : decode mX6_advance.2.1 210 = .ok (.getfield 42, 3) := by decide +kernel
theorem dX6_advance_213 : decode mX6_advance.2.1 213 = .ok (.baload, 1) := by decide +kernel
theorem dX6_advance_214 : decode mX6_advance.2.1 214 = .ok (.bipush 48, 2) := by decide +kernel
theorem dX6_advance_216 : decode mX6_advance.2.1 216 = .ok (.isub, 1) := by decide +kernel
theorem dX6_advance_217 : decode mX6_advance.2.1 217 = .ok (.iadd, 1) := by decide +kernel
theorem dX6_advance_218 : decode mX6_advance.2.1 218 = .ok (.putfield 58, 3) := by decide +kernel
theorem dX6_advance_221 : decode mX6_advance.2.1 221 = .ok (.aload_n 0, 1) := by decide +kernel
theorem dX6_advance_222 : decode mX6_advance.2.1 222 = .ok (.dup, 1) := by decide +kernel
theorem dX6_advance_223 : decode mX6_advance.2.1 223 = .ok (.getfield 42, 3) := by decide +kernel
theorem dX6_advance_226 : decode mX6_advance.2.1 226 = .ok (.iconst 1, 1) := by decide +kernel
theorem dX6_advance_227 : decode mX6_advance.2.1 227 = .ok (.iadd, 1) := by decide +kernel
theorem dX6_advance_228 : decode mX6_advance.2.1 228 = .ok (.putfield 42, 3) := by decide +kernel
theorem dX6_advance_231 : decode mX6_advance.2.1 231 = .ok (.goto (-73), 3) := by decide +kernel
theorem dX6_advance_234 : decode mX6_advance.2.1 234 = .ok (.aload_n 0, 1) := by decide +kernel
theorem dX6_advance_235 : decode mX6_advance.2.1 235 = .ok (.getfield 42, 3) := by decide +kernel
theorem dX6_advance_238 : decode mX6_advance.2.1 238 = .ok (.aload_n 0, 1) := by decide +kernel
theorem dX6_advance_239 : decode mX6_advance.2.1 239 = .ok (.getfield 48, 3) := by decide +kernel
theorem dX6_advance_242 : decode mX6_advance.2.1 242 = .ok (.if_icmp .le 10, 3) := by decide +kernel
theorem dX6_advance_245 : decode mX6_advance.2.1 245 = .ok (.aload_n 0, 1) := by decide +kernel
theorem dX6_advance_246 : decode mX6_advance.2.1 246 = .ok (.invokevirtual 61, 3) := by decide +kernel
theorem dX6_advance_249 : decode mX6_advance.2.1 249 = .ok (.goto 7, 3) := by decide +kernel
theorem dX6_advance_252 : decode mX6_advance.2.1 252 = .ok (.aload_n 0, 1) := by decide +kernel
theorem dX6_advance_253 : decode mX6_advance.2.1 253 = .ok (.invokevirtual 64, 3) := by decide +kernel
theorem dX6_advance_256 : decode mX6_advance.2.1 256 = .ok (.return_, 1) := by decide +kernel
theorem bX6_advance_0 {E : px_E} {d : Nat} {w : pw_W} {Q : Option Value → pw_W → Prop} {t : ct_T} (hw : w.1 = cs t) (htx : t.2.2 = 2) 
    (k1 : (pw_I w 17 2) ≤ (pw_I w 17 3) → px_W E mX6_advance (d + 2) 0 0 52 [.ref 17] [] w Q)
    (k2 : ¬ (pw_I w 17 2) ≤ (pw_I w 17 3) → px_W E mX6_advance (d + 2) 0 0 11 [.ref 17] [] w Q) :
    px_W E mX6_advance (d + 2) 0 0 0 [.ref 17] [] w Q := by
  refine px_aload_n dX6_advance_0 rfl rfl ?_
  refine px_getI dX6_advance_1 fr_6_42 rfl (px_sh1 hw sh_17) ?_
  refine px_aload_n dX6_advance_4 rfl rfl ?_
  refine px_getI dX6_advance_5 fr_6_39 rfl (px_sh1 hw sh_17) ?_
  refine px_icmp_ge (tgt := 52) dX6_advance_8 (by decide) (fun h1 => ?_) (fun h1 => ?_)
  ·
    exact (k1 h1)
  ·
    exact (k2 h1)
theorem eX6_advance {E : px_E} {d : Nat} {w : pw_W} {Q : Option Value → pw_W → Prop} {t : ct_T} (hw : w.1 = cs t) (htx : t.2.2 = 2) 
    (k1 : (pw_I w 17 2) ≤ (pw_I w 17 3) → px_W E mX6_advance (d + 2) 0 0 52 [.ref 17] [] w Q)
    (k2 : ¬ (pw_I w 17 2) ≤ (pw_I w 17 3) → px_W E mX6_advance (d + 2) 0 0 11 [.ref 17] [] w Q) :
    px_Call E (d + 2) 0 0 mX6_advance [.ref 17] w Q :=
  px_enter (k := 0) (by decide) (Nat.le_of_ble_eq_true rfl) rfl (px_forget (bX6_advance_0 hw htx k1 k2) ⟨Or.inr rfl, trivial⟩)
theorem bX6_advance_11 {E : px_E} {d : Nat} {w : pw_W} {Q : Option Value → pw_W → Prop} {t : ct_T} (hw : w.1 = cs t) (htx : t.2.2 = 2) (j1 : Nat) (hj1 : (pw_I w 17 3) = nI j1) (hl1 : j1 < 1600)
    (k1 : (pw_I w 2 j1) = 32 → px_W E mX6_advance (d + 2) 0 0 39 [.ref 17] [] w Q)
    (k2 : ¬ (pw_I w 2 j1) = 32 → px_W E mX6_advance (d + 2) 0 0 25 [.ref 17] [] w Q) :
    px_W E mX6_advance (d + 2) 0 0 11 [.ref 17] [] w Q := by
  refine px_aload_n dX6_advance_11 rfl rfl ?_
  refine px_getR (v := 2) dX6_advance_12 fr_6_13 rfl (px_sh1 hw sh_17) (px_rf hw ((rf_17_1 (t := t)).trans htx)) (by decide) ?_
  refine px_aload_n dX6_advance_15 rfl rfl ?_
  refine px_getI dX6_advance_16 fr_6_42 rfl (px_sh1 hw sh_17) ?_
  refine px_bald dX6_advance_19 (px_sh2 hw sh_2) (by decide) j1 hj1 hl1 ?_
  refine px_bipush dX6_advance_20 bp_32 ?_
  refine px_icmp_eq (tgt := 39) dX6_advance_22 (by decide) (fun h1 => ?_) (fun h1 => ?_)
  ·
    exact (k1 h1)
  ·
    exact (k2 h1)
theorem bX6_advance_25 {E : px_E} {d : Nat} {w : pw_W} {Q : Option Value → pw_W → Prop} {t : ct_T} (hw : w.1 = cs t) (htx : t.2.2 = 2) (j1 : Nat) (hj1 : (pw_I w 17 3) = nI j1) (hl1 : j1 < 1600)
    (k1 : ¬ (pw_I w 2 j1) = 10 → px_W E mX6_advance (d + 2) 0 0 52 [.ref 17] [] w Q)
    (k2 : (pw_I w 2 j1) = 10 → px_W E mX6_advance (d + 2) 0 0 39 [.ref 17] [] w Q) :
    px_W E mX6_advance (d + 2) 0 0 25 [.ref 17] [] w Q := by
  refine px_aload_n dX6_advance_25 rfl rfl ?_
  refine px_getR (v := 2) dX6_advance_26 fr_6_13 rfl (px_sh1 hw sh_17) (px_rf hw ((rf_17_1 (t := t)).trans htx)) (by decide) ?_
  refine px_aload_n dX6_advance_29 rfl rfl ?_
  refine px_getI dX6_advance_30 fr_6_42 rfl (px_sh1 hw sh_17) ?_
  refine px_bald dX6_advance_33 (px_sh2 hw sh_2) (by decide) j1 hj1 hl1 ?_
  refine px_bipush dX6_advance_34 bp_10 ?_
  refine px_icmp_ne (tgt := 52) dX6_advance_36 (by decide) (fun h1 => ?_) (fun h1 => ?_)
  ·
    exact (k1 h1)
  ·
    exact (k2 h1)
theorem bX6_advance_39 {E : px_E} {d : Nat} {w : pw_W} {Q : Option Value → pw_W → Prop} {t : ct_T} (hw : w.1 = cs t) (htx : t.2.2 = 2) 
    (k1 : px_W E mX6_advance (d + 2) 0 0 0 [.ref 17] [] (pw_sI w 17 3 ((pw_I w 17 3) + 1)) Q) :
    px_W E mX6_advance (d + 2) 0 0 39 [.ref 17] [] w Q := by
  refine px_aload_n dX6_advance_39 rfl rfl ?_
  refine px_dup dX6_advance_40 rfl ?_
  refine px_getI dX6_advance_41 fr_6_42 rfl (px_sh1 hw sh_17) ?_
  refine px_iconst dX6_advance_44 ic_1 ?_
  refine px_iadd dX6_advance_45 ?_
  refine px_putI dX6_advance_46 fl_6_42 (Or.inl rfl) rfl (px_sh1 hw sh_17) rfl rfl (by omega) ?_
  refine px_goto (tgt := 0) dX6_advance_49 (by decide) ?_
  exact k1
theorem bX6_advance_52 {E : px_E} {d : Nat} {w : pw_W} {Q : Option Value → pw_W → Prop} {t : ct_T} (hw : w.1 = cs t) (htx : t.2.2 = 2) 
    (k1 : px_W E mX6_advance (d + 2) 0 0 65 [.ref 17] [] (pw_sL (pw_sI w 17 7 (pw_I w 17 3)) 17 6 0) Q) :
    px_W E mX6_advance (d + 2) 0 0 52 [.ref 17] [] w Q := by
  refine px_aload_n dX6_advance_52 rfl rfl ?_
  refine px_aload_n dX6_advance_53 rfl rfl ?_
  refine px_getI dX6_advance_54 fr_6_42 rfl (px_sh1 hw sh_17) ?_
  refine px_putI dX6_advance_57 fl_6_48 (Or.inl rfl) rfl (px_sh1 hw sh_17) rfl rfl (by omega) ?_
  refine px_aload_n dX6_advance_60 rfl rfl ?_
  refine px_lconst (v := 0) dX6_advance_61 (by decide) ?_
  refine px_putL dX6_advance_62 fl_6_51 (Or.inl rfl) rfl (px_sh1 (hI hw) sh_17) (by omega) ?_
  exact k1
theorem bX6_advance_65 {E : px_E} {d : Nat} {w : pw_W} {Q : Option Value → pw_W → Prop} {t : ct_T} (hw : w.1 = cs t) (htx : t.2.2 = 2) 
    (k1 : (pw_I w 17 2) ≤ (pw_I w 17 3) → px_W E mX6_advance (d + 2) 0 0 137 [.ref 17] [] w Q)
    (k2 : ¬ (pw_I w 17 2) ≤ (pw_I w 17 3) → px_W E mX6_advance (d + 2) 0 0 76 [.ref 17] [] w Q) :
    px_W E mX6_advance (d + 2) 0 0 65 [.ref 17] [] w Q := by
  refine px_aload_n dX6_advance_65 rfl rfl ?_
  refine px_getI dX6_advance_66 fr_6_42 rfl (px_sh1 hw sh_17) ?_
  refine px_aload_n dX6_advance_69 rfl rfl ?_
  refine px_getI dX6_advance_70 fr_6_39 rfl (px_sh1 hw sh_17) ?_
  refine px_icmp_ge (tgt := 137) dX6_advance_73 (by decide) (fun h1 => ?_) (fun h1 => ?_)
  ·
    exact (k1 h1)
  ·
    exact (k2 h1)
theorem bX6_advance_76 {E : px_E} {d : Nat} {w : pw_W} {Q : Option Value → pw_W → Prop} {t : ct_T} (hw : w.1 = cs t) (htx : t.2.2 = 2) (j1 : Nat) (hj1 : (pw_I w 17 3) = nI j1) (hl1 : j1 < 1600)
    (k1 : (pw_I w 2 j1) < 97 → px_W E mX6_advance (d + 2) 0 0 137 [.ref 17] [] w Q)
    (k2 : ¬ (pw_I w 2 j1) < 97 → px_W E mX6_advance (d + 2) 0 0 90 [.ref 17] [] w Q) :
    px_W E mX6_advance (d + 2) 0 0 76 [.ref 17] [] w Q := by
  refine px_aload_n dX6_advance_76 rfl rfl ?_
  refine px_getR (v := 2) dX6_advance_77 fr_6_13 rfl (px_sh1 hw sh_17) (px_rf hw ((rf_17_1 (t := t)).trans htx)) (by decide) ?_
  refine px_aload_n dX6_advance_80 rfl rfl ?_
  refine px_getI dX6_advance_81 fr_6_42 rfl (px_sh1 hw sh_17) ?_
  refine px_bald dX6_advance_84 (px_sh2 hw sh_2) (by decide) j1 hj1 hl1 ?_
  refine px_bipush dX6_advance_85 bp_97 ?_
  refine px_icmp_lt (tgt := 137) dX6_advance_87 (by decide) (fun h1 => ?_) (fun h1 => ?_)
  ·
    exact (k1 h1)
  ·
    exact (k2 h1)
theorem bX6_advance_90 {E : px_E} {d : Nat} {w : pw_W} {Q : Option Value → pw_W → Prop} {t : ct_T} (hw : w.1 = cs t) (htx : t.2.2 = 2) (j1 : Nat) (hj1 : (pw_I w 17 3) = nI j1) (hl1 : j1 < 1600)
    (k1 : 122 < (pw_I w 2 j1) → px_W E mX6_advance (d + 2) 0 0 137 [.ref 17] [] w Q)
    (k2 : ¬ 122 < (pw_I w 2 j1) → px_W E mX6_advance (d + 2) 0 0 104 [.ref 17] [] w Q) :
    px_W E mX6_advance (d + 2) 0 0 90 [.ref 17] [] w Q := by
  refine px_aload_n dX6_advance_90 rfl rfl ?_
  refine px_getR (v := 2) dX6_advance_91 fr_6_13 rfl (px_sh1 hw sh_17) (px_rf hw ((rf_17_1 (t := t)).trans htx)) (by decide) ?_
  refine px_aload_n dX6_advance_94 rfl rfl ?_
  refine px_getI dX6_advance_95 fr_6_42 rfl (px_sh1 hw sh_17) ?_
  refine px_bald dX6_advance_98 (px_sh2 hw sh_2) (by decide) j1 hj1 hl1 ?_
  refine px_bipush dX6_advance_99 bp_122 ?_
  refine px_icmp_gt (tgt := 137) dX6_advance_101 (by decide) (fun h1 => ?_) (fun h1 => ?_)
  ·
    exact (k1 h1)
  ·
    exact (k2 h1)
theorem bX6_advance_104 {E : px_E} {d : Nat} {w : pw_W} {Q : Option Value → pw_W → Prop} {t : ct_T} (hw : w.1 = cs t) (htx : t.2.2 = 2) (j1 : Nat) (hj1 : (pw_I w 17 3) = nI j1) (hl1 : j1 < 1600)
    (k1 : px_W E mX6_advance (d + 2) 0 0 65 [.ref 17] [] (pw_sI (pw_sL w 17 6 (hX6_spelledOn (pw_L w 17 6) (pw_I w 2 j1))) 17 3 ((pw_I w 17 3) + 1)) Q) :
    px_W E mX6_advance (d + 2) 0 0 104 [.ref 17] [] w Q := by
  refine px_aload_n dX6_advance_104 rfl rfl ?_
  refine px_aload_n dX6_advance_105 rfl rfl ?_
  refine px_getL dX6_advance_106 fr_6_51 rfl (px_sh1 hw sh_17) ?_
  refine px_aload_n dX6_advance_109 rfl rfl ?_
  refine px_getR (v := 2) dX6_advance_110 fr_6_13 rfl (px_sh1 hw sh_17) (px_rf hw ((rf_17_1 (t := t)).trans htx)) (by decide) ?_
  refine px_aload_n dX6_advance_113 rfl rfl ?_
  refine px_getI dX6_advance_114 fr_6_42 rfl (px_sh1 hw sh_17) ?_
  refine px_bald dX6_advance_117 (px_sh2 hw sh_2) (by decide) j1 hj1 hl1 ?_
  refine px_callS (As := [.long (pw_L w 17 6), .int (pw_I w 2 j1)]) (st := [.ref 17]) (rc := 0) (rs := 0) (mc := 0) (ms := 0) dX6_advance_118 lk_6_29 rfl rfl (Nat.le_of_ble_eq_true rfl) (sX6_spelledOn ?_)
  show px_W E mX6_advance (d + 2) 0 0 121 [.ref 17] [.long (hX6_spelledOn (pw_L w 17 6) (pw_I w 2 j1)), .ref 17] w Q
  refine px_putL dX6_advance_121 fl_6_51 (Or.inl rfl) rfl (px_sh1 hw sh_17) (by omega) ?_
  refine px_aload_n dX6_advance_124 rfl rfl ?_
  refine px_dup dX6_advance_125 rfl ?_
  refine px_getIv (v := (pw_I w 17 3)) dX6_advance_126 fr_6_42 rfl (px_sh1 (hL hw) sh_17) rfl ?_
  refine px_iconst dX6_advance_129 ic_1 ?_
  refine px_iadd dX6_advance_130 ?_
  refine px_putI dX6_advance_131 fl_6_42 (Or.inl rfl) rfl (px_sh1 (hL hw) sh_17) rfl rfl (by omega) ?_
  refine px_goto (tgt := 65) dX6_advance_134 (by decide) ?_
  exact k1
theorem bX6_advance_137 {E : px_E} {d : Nat} {w : pw_W} {Q : Option Value → pw_W → Prop} {t : ct_T} (hw : w.1 = cs t) (htx : t.2.2 = 2) 
    (k1 : (pw_I w 17 3) ≤ (pw_I w 17 7) → px_W E mX6_advance (d + 2) 0 0 158 [.ref 17] [] (pw_sI w 17 5 0) Q)
    (k2 : ¬ (pw_I w 17 3) ≤ (pw_I w 17 7) → px_Call E (d + 1) 0 0 mX6_takeWord [.ref 17] w (fun v w' => px_W E mX6_advance (d + 2) 0 0 152 [.null] (v.toList ++ []) w' Q)) :
    px_W E mX6_advance (d + 2) 0 0 137 [.ref 17] [] w Q := by
  refine px_aload_n dX6_advance_137 rfl rfl ?_
  refine px_getI dX6_advance_138 fr_6_42 rfl (px_sh1 hw sh_17) ?_
  refine px_aload_n dX6_advance_141 rfl rfl ?_
  refine px_getI dX6_advance_142 fr_6_48 rfl (px_sh1 hw sh_17) ?_
  refine px_icmp_le (tgt := 153) dX6_advance_145 (by decide) (fun h1 => ?_) (fun h1 => ?_)
  ·
    refine px_aload_n dX6_advance_153 rfl rfl ?_
    refine px_iconst dX6_advance_154 ic_0 ?_
    refine px_putI dX6_advance_155 fl_6_58 (Or.inl rfl) rfl (px_sh1 hw sh_17) rfl rfl (by omega) ?_
    exact (k1 h1)
  ·
    refine px_aload_n dX6_advance_148 rfl rfl ?_
    refine px_forget (ls' := [.null]) ?_ ⟨Or.inl rfl, trivial⟩
    exact px_callV (As := []) (st := []) (rc := 0) (rs := 0) (mc := 0) (ms := 0) dX6_advance_149 lk_6_55 (px_sh1 hw sh_17) rfl rfl (Nat.le_of_ble_eq_true rfl) (k2 h1)
theorem bX6_advance_152 {E : px_E} {d : Nat} {w : pw_W} {Q : Option Value → pw_W → Prop} {t : ct_T} (hw : w.1 = cs t) (htx : t.2.2 = 2) 
    (k1 : Q none w) :
    px_W E mX6_advance (d + 2) 0 0 152 [.null] [] w Q := by
  exact px_return dX6_advance_152 rfl k1
theorem bX6_advance_158 {E : px_E} {d : Nat} {w : pw_W} {Q : Option Value → pw_W → Prop} {t : ct_T} (hw : w.1 = cs t) (htx : t.2.2 = 2) 
    (k1 : (pw_I w 17 2) ≤ (pw_I w 17 3) → px_W E mX6_advance (d + 2) 0 0 234 [.ref 17] [] w Q)
    (k2 : ¬ (pw_I w 17 2) ≤ (pw_I w 17 3) → px_W E mX6_advance (d + 2) 0 0 169 [.ref 17] [] w Q) :
    px_W E mX6_advance (d + 2) 0 0 158 [.ref 17] [] w Q := by
  refine px_aload_n dX6_advance_158 rfl rfl ?_
  refine px_getI dX6_advance_159 fr_6_42 rfl (px_sh1 hw sh_17) ?_
  refine px_aload_n dX6_advance_162 rfl rfl ?_
  refine px_getI dX6_advance_163 fr_6_39 rfl (px_sh1 hw sh_17) ?_
  refine px_icmp_ge (tgt := 234) dX6_advance_166 (by decide) (fun h1 => ?_) (fun h1 => ?_)
  ·
    exact (k1 h1)
  ·
    exact (k2 h1)
theorem bX6_advance_169 {E : px_E} {d : Nat} {w : pw_W} {Q : Option Value → pw_W → Prop} {t : ct_T} (hw : w.1 = cs t) (htx : t.2.2 = 2) (j1 : Nat) (hj1 : (pw_I w 17 3) = nI j1) (hl1 : j1 < 1600)
    (k1 : (pw_I w 2 j1) < 48 → px_W E mX6_advance (d + 2) 0 0 234 [.ref 17] [] w Q)
    (k2 : ¬ (pw_I w 2 j1) < 48 → px_W E mX6_advance (d + 2) 0 0 183 [.ref 17] [] w Q) :
    px_W E mX6_advance (d + 2) 0 0 169 [.ref 17] [] w Q := by
  refine px_aload_n dX6_advance_169 rfl rfl ?_
  refine px_getR (v := 2) dX6_advance_170 fr_6_13 rfl (px_sh1 hw sh_17) (px_rf hw ((rf_17_1 (t := t)).trans htx)) (by decide) ?_
  refine px_aload_n dX6_advance_173 rfl rfl ?_
  refine px_getI dX6_advance_174 fr_6_42 rfl (px_sh1 hw sh_17) ?_
  refine px_bald dX6_advance_177 (px_sh2 hw sh_2) (by decide) j1 hj1 hl1 ?_
  refine px_bipush dX6_advance_178 bp_48 ?_
  refine px_icmp_lt (tgt := 234) dX6_advance_180 (by decide) (fun h1 => ?_) (fun h1 => ?_)
  ·
    exact (k1 h1)
  ·
    exact (k2 h1)
theorem bX6_advance_183 {E : px_E} {d : Nat} {w : pw_W} {Q : Option Value → pw_W → Prop} {t : ct_T} (hw : w.1 = cs t) (htx : t.2.2 = 2) (j1 : Nat) (hj1 : (pw_I w 17 3) = nI j1) (hl1 : j1 < 1600)
    (k1 : 57 < (pw_I w 2 j1) → px_W E mX6_advance (d + 2) 0 0 234 [.ref 17] [] w Q)
    (k2 : ¬ 57 < (pw_I w 2 j1) → px_W E mX6_advance (d + 2) 0 0 197 [.ref 17] [] w Q) :
    px_W E mX6_advance (d + 2) 0 0 183 [.ref 17] [] w Q := by
  refine px_aload_n dX6_advance_183 rfl rfl ?_
  refine px_getR (v := 2) dX6_advance_184 fr_6_13 rfl (px_sh1 hw sh_17) (px_rf hw ((rf_17_1 (t := t)).trans htx)) (by decide) ?_
  refine px_aload_n dX6_advance_187 rfl rfl ?_
  refine px_getI dX6_advance_188 fr_6_42 rfl (px_sh1 hw sh_17) ?_
  refine px_bald dX6_advance_191 (px_sh2 hw sh_2) (by decide) j1 hj1 hl1 ?_
  refine px_bipush dX6_advance_192 bp_57 ?_
  refine px_icmp_gt (tgt := 234) dX6_advance_194 (by decide) (fun h1 => ?_) (fun h1 => ?_)
  ·
    exact (k1 h1)
  ·
    exact (k2 h1)
theorem bX6_advance_197 {E : px_E} {d : Nat} {w : pw_W} {Q : Option Value → pw_W → Prop} {t : ct_T} (hw : w.1 = cs t) (htx : t.2.2 = 2) (j1 : Nat) (hj1 : (pw_I w 17 3) = nI j1) (hl1 : j1 < 1600)
    (k1 : px_W E mX6_advance (d + 2) 0 0 158 [.ref 17] [] (pw_sI (pw_sI w 17 5 (((pw_I w 17 5) * 10) + ((pw_I w 2 j1) - 48))) 17 3 ((pw_I w 17 3) + 1)) Q) :
    px_W E mX6_advance (d + 2) 0 0 197 [.ref 17] [] w Q := by
  refine px_aload_n dX6_advance_197 rfl rfl ?_
  refine px_aload_n dX6_advance_198 rfl rfl ?_
  refine px_getI dX6_advance_199 fr_6_58 rfl (px_sh1 hw sh_17) ?_
  refine px_bipush dX6_advance_202 bp_10 ?_
  refine px_imul dX6_advance_204 ?_
  refine px_aload_n dX6_advance_205 rfl rfl ?_
  refine px_getR (v := 2) dX6_advance_206 fr_6_13 rfl (px_sh1 hw sh_17) (px_rf hw ((rf_17_1 (t := t)).trans htx)) (by decide) ?_
  refine px_aload_n dX6_advance_209 rfl rfl ?_
  refine px_getI dX6_advance_210 fr_6_42 rfl (px_sh1 hw sh_17) ?_
  refine px_bald dX6_advance_213 (px_sh2 hw sh_2) (by decide) j1 hj1 hl1 ?_
  refine px_bipush dX6_advance_214 bp_48 ?_
  refine px_isub dX6_advance_216 ?_
  refine px_iadd dX6_advance_217 ?_
  refine px_putI dX6_advance_218 fl_6_58 (Or.inl rfl) rfl (px_sh1 hw sh_17) rfl rfl (by omega) ?_
  refine px_aload_n dX6_advance_221 rfl rfl ?_
  refine px_dup dX6_advance_222 rfl ?_
  refine px_getIv (v := (pw_I w 17 3)) dX6_advance_223 fr_6_42 rfl (px_sh1 (hI hw) sh_17) rfl ?_
  refine px_iconst dX6_advance_226 ic_1 ?_
  refine px_iadd dX6_advance_227 ?_
  refine px_putI dX6_advance_228 fl_6_42 (Or.inl rfl) rfl (px_sh1 (hI hw) sh_17) rfl rfl (by omega) ?_
  refine px_goto (tgt := 158) dX6_advance_231 (by decide) ?_
  exact k1
theorem bX6_advance_234 {E : px_E} {d : Nat} {w : pw_W} {Q : Option Value → pw_W → Prop} {t : ct_T} (hw : w.1 = cs t) (htx : t.2.2 = 2) 
    (k1 : (pw_I w 17 3) ≤ (pw_I w 17 7) → px_Call E (d + 1) 0 0 mX6_takeSignOrEnd [.ref 17] w (fun v w' => px_W E mX6_advance (d + 2) 0 0 256 [.null] (v.toList ++ []) w' Q))
    (k2 : ¬ (pw_I w 17 3) ≤ (pw_I w 17 7) → px_Call E (d + 1) 0 0 mX6_takeNumber [.ref 17] w (fun v w' => px_W E mX6_advance (d + 2) 0 0 249 [.null] (v.toList ++ []) w' Q)) :
    px_W E mX6_advance (d + 2) 0 0 234 [.ref 17] [] w Q := by
  refine px_aload_n dX6_advance_234 rfl rfl ?_
  refine px_getI dX6_advance_235 fr_6_42 rfl (px_sh1 hw sh_17) ?_
  refine px_aload_n dX6_advance_238 rfl rfl ?_
  refine px_getI dX6_advance_239 fr_6_48 rfl (px_sh1 hw sh_17) ?_
  refine px_icmp_le (tgt := 252) dX6_advance_242 (by decide) (fun h1 => ?_) (fun h1 => ?_)
  ·
    refine px_aload_n dX6_advance_252 rfl rfl ?_
    refine px_forget (ls' := [.null]) ?_ ⟨Or.inl rfl, trivial⟩
    exact px_callV (As := []) (st := []) (rc := 0) (rs := 0) (mc := 0) (ms := 0) dX6_advance_253 lk_6_64 (px_sh1 hw sh_17) rfl rfl (Nat.le_of_ble_eq_true rfl) (k1 h1)
  ·
    refine px_aload_n dX6_advance_245 rfl rfl ?_
    refine px_forget (ls' := [.null]) ?_ ⟨Or.inl rfl, trivial⟩
    exact px_callV (As := []) (st := []) (rc := 0) (rs := 0) (mc := 0) (ms := 0) dX6_advance_246 lk_6_61 (px_sh1 hw sh_17) rfl rfl (Nat.le_of_ble_eq_true rfl) (k2 h1)
theorem bX6_advance_249 {E : px_E} {d : Nat} {w : pw_W} {Q : Option Value → pw_W → Prop} {t : ct_T} (hw : w.1 = cs t) (htx : t.2.2 = 2) 
    (k1 : px_W E mX6_advance (d + 2) 0 0 256 [.null] [] w Q) :
    px_W E mX6_advance (d + 2) 0 0 249 [.null] [] w Q := by
  refine px_goto (tgt := 256) dX6_advance_249 (by decide) ?_
  exact k1
theorem bX6_advance_256 {E : px_E} {d : Nat} {w : pw_W} {Q : Option Value → pw_W → Prop} {t : ct_T} (hw : w.1 = cs t) (htx : t.2.2 = 2) 
    (k1 : Q none w) :
    px_W E mX6_advance (d + 2) 0 0 256 [.null] [] w Q := by
  exact px_return dX6_advance_256 rfl k1
theorem dX6_takeWord_0 : decode mX6_takeWord.2.1 0 = .ok (.aload_n 0, 1) := by decide +kernel
theorem dX6_takeWord_1 : decode mX6_takeWord.2.1 1 = .ok (.getfield 42, 3) := by decide +kernel
theorem dX6_takeWord_4 : decode mX6_takeWord.2.1 4 = .ok (.aload_n 0, 1) := by decide +kernel
theorem dX6_takeWord_5 : decode mX6_takeWord.2.1 5 = .ok (.getfield 48, 3) := by decide +kernel
theorem dX6_takeWord_8 : decode mX6_takeWord.2.1 8 = .ok (.isub, 1) := by decide +kernel
theorem dX6_takeWord_9 : decode mX6_takeWord.2.1 9 = .ok (.bipush 8, 2) := by decide +kernel
theorem dX6_takeWord_11 : decode mX6_takeWord.2.1 11 = .ok (.if_icmp .le 9, 3) := by decide +kernel
theorem dX6_takeWord_14 : decode mX6_takeWord.2.1 14 = .ok (.aload_n 0, 1) := by decide +kernel
theorem dX6_takeWord_15 : decode mX6_takeWord.2.1 15 = .ok (.iconst 1, 1) := by decide +kernel
theorem dX6_takeWord_16 : decode mX6_takeWord.2.1 16 = .ok (.putfield 67, 3) := by decide +kernel
theorem dX6_takeWord_19 : decode mX6_takeWord.2.1 19 = .ok (.return_, 1) := by decide +kernel
theorem dX6_takeWord_20 : decode mX6_takeWord.2.1 20 = .ok (.aload_n 0, 1) := by decide +kernel
theorem dX6_takeWord_21 : decode mX6_takeWord.2.1 21 = .ok (.iconst 3, 1) := by decide +kernel
theorem dX6_takeWord_22 : decode mX6_takeWord.2.1 22 = .ok (.putfield 67, 3) := by decide +kernel
theorem dX6_takeWord_25 : decode mX6_takeWord.2.1 25 = .ok (.iconst 0, 1) := by decide +kernel
theorem dX6_takeWord_26 : decode mX6_takeWord.2.1 26 = .ok (.istore_n 1, 1) := by decide +kernel
theorem dX6_takeWord_27 : decode mX6_takeWord.2.1 27 = .ok (.iload_n 1, 1) := by decide +kernel
theorem dX6_takeWord_28 : decode mX6_takeWord.2.1 28 = .ok (.bipush 20, 2) := by decide +kernel
theorem dX6_takeWord_30 : decode mX6_takeWord.2.1 30 = .ok (.if_icmp .ge 33, 3) := by decide +kernel
theorem dX6_takeWord_33 : decode mX6_takeWord.2.1 33 = .ok (.aload_n 0, 1) := by decide +kernel
theorem dX6_takeWord_34 : decode mX6_takeWord.2.1 34 = .ok (.getfield 9, 3) := by decide +kernel
theorem dX6_takeWord_37 : decode mX6_takeWord.2.1 37 = .ok (.iload_n 1, 1) := by decide +kernel
theorem dX6_takeWord_38 : decode mX6_takeWord.2.1 38 = .ok (.laload, 1) := by decide +kernel
theorem dX6_takeWord_39 : decode mX6_takeWord.2.1 39 = .ok (.aload_n 0, 1) := by decide +kernel
theorem dX6_takeWord_40 : decode mX6_takeWord.2.1 40 = .ok (.getfield 51, 3) := by decide +kernel
theorem dX6_takeWord_43 : decode mX6_takeWord.2.1 43 = .ok (.lcmp, 1) := by decide +kernel
theorem dX6_takeWord_44 : decode mX6_takeWord.2.1 44 = .ok (.ifCond .ne 13, 3) := by decide +kernel
theorem dX6_takeWord_47 : decode mX6_takeWord.2.1 47 = .ok (.aload_n 0, 1) := by decide +kernel
theorem dX6_takeWord_48 : decode mX6_takeWord.2.1 48 = .ok (.iconst 4, 1) := by decide +kernel
theorem dX6_takeWord_49 : decode mX6_takeWord.2.1 49 = .ok (.putfield 67, 3) := by decide +kernel
theorem dX6_takeWord_52 : decode mX6_takeWord.2.1 52 = .ok (.aload_n 0, 1) := by decide +kernel
theorem dX6_takeWord_53 : decode mX6_takeWord.2.1 53 = .ok (.iload_n 1, 1) := by decide +kernel
theorem dX6_takeWord_54 : decode mX6_takeWord.2.1 54 = .ok (.putfield 58, 3) := by decide +kernel
theorem dX6_takeWord_57 : decode mX6_takeWord.2.1 57 = .ok (.iinc 1 1, 3) := by decide +kernel
theorem dX6_takeWord_60 : decode mX6_takeWord.2.1 60 = .ok (.goto (-33), 3) := by decide +kernel
theorem dX6_takeWord_63 : decode mX6_takeWord.2.1 63 = .ok (.return_, 1) := by decide +kernel
theorem bX6_takeWord_0 {E : px_E} {d : Nat} {w : pw_W} {Q : Option Value → pw_W → Prop} {t : ct_T} (hw : w.1 = cs t)  
    (k1 : ((pw_I w 17 3) - (pw_I w 17 7)) ≤ 8 → px_W E mX6_takeWord (d + 1) 0 0 27 [.ref 17, .int 0] [] (pw_sI w 17 4 3) Q)
    (k2 : ¬ ((pw_I w 17 3) - (pw_I w 17 7)) ≤ 8 → Q none (pw_sI w 17 4 1)) :
    px_W E mX6_takeWord (d + 1) 0 0 0 [.ref 17, .null] [] w Q := by
  refine px_aload_n dX6_takeWord_0 rfl rfl ?_
  refine px_getI dX6_takeWord_1 fr_6_42 rfl (px_sh1 hw sh_17) ?_
  refine px_aload_n dX6_takeWord_4 rfl rfl ?_
  refine px_getI dX6_takeWord_5 fr_6_48 rfl (px_sh1 hw sh_17) ?_
  refine px_isub dX6_takeWord_8 ?_
  refine px_bipush dX6_takeWord_9 bp_8 ?_
  refine px_icmp_le (tgt := 20) dX6_takeWord_11 (by decide) (fun h1 => ?_) (fun h1 => ?_)
  ·
    refine px_aload_n dX6_takeWord_20 rfl rfl ?_
    refine px_iconst dX6_takeWord_21 ic_3 ?_
    refine px_putI dX6_takeWord_22 fl_6_67 (Or.inl rfl) rfl (px_sh1 hw sh_17) rfl rfl (by omega) ?_
    refine px_iconst dX6_takeWord_25 ic_0 ?_
    refine px_istore_n (ls' := [.ref 17, .int 0]) dX6_takeWord_26 rfl ⟨by decide, rfl⟩ rfl ?_
    exact (k1 h1)
  ·
    refine px_aload_n dX6_takeWord_14 rfl rfl ?_
    refine px_iconst dX6_takeWord_15 ic_1 ?_
    refine px_putI dX6_takeWord_16 fl_6_67 (Or.inl rfl) rfl (px_sh1 hw sh_17) rfl rfl (by omega) ?_
    exact px_return dX6_takeWord_19 rfl (k2 h1)
theorem eX6_takeWord {E : px_E} {d : Nat} {w : pw_W} {Q : Option Value → pw_W → Prop} {t : ct_T} (hw : w.1 = cs t)  
    (k1 : ((pw_I w 17 3) - (pw_I w 17 7)) ≤ 8 → px_W E mX6_takeWord (d + 1) 0 0 27 [.ref 17, .int 0] [] (pw_sI w 17 4 3) Q)
    (k2 : ¬ ((pw_I w 17 3) - (pw_I w 17 7)) ≤ 8 → Q none (pw_sI w 17 4 1)) :
    px_Call E (d + 1) 0 0 mX6_takeWord [.ref 17] w Q :=
  px_enter (k := 1) (by decide) (Nat.le_of_ble_eq_true rfl) rfl (px_forget (bX6_takeWord_0 hw k1 k2) ⟨Or.inr rfl, Or.inl rfl, trivial⟩)
theorem bX6_takeWord_27 {E : px_E} {d : Nat} {w : pw_W} {Q : Option Value → pw_W → Prop} {t : ct_T} (hw : w.1 = cs t) {x1 : Int32}  
    (k1 : 20 ≤ x1 → Q none w)
    (k2 : ¬ 20 ≤ x1 → px_W E mX6_takeWord (d + 1) 0 0 33 [.ref 17, .int x1] [] w Q) :
    px_W E mX6_takeWord (d + 1) 0 0 27 [.ref 17, .int x1] [] w Q := by
  refine px_iload_n dX6_takeWord_27 rfl rfl ?_
  refine px_bipush dX6_takeWord_28 bp_20 ?_
  refine px_icmp_ge (tgt := 63) dX6_takeWord_30 (by decide) (fun h1 => ?_) (fun h1 => ?_)
  ·
    exact px_return dX6_takeWord_63 rfl (k1 h1)
  ·
    exact (k2 h1)
theorem bX6_takeWord_33 {E : px_E} {d : Nat} {w : pw_W} {Q : Option Value → pw_W → Prop} {t : ct_T} (hw : w.1 = cs t) {x1 : Int32}  (j1 : Nat) (hj1 : x1 = nI j1) (hl1 : j1 < 20)
    (k1 : ¬ (pw_L w 18 j1) = (pw_L w 17 6) → px_W E mX6_takeWord (d + 1) 0 0 57 [.ref 17, .int x1] [] w Q)
    (k2 : (pw_L w 18 j1) = (pw_L w 17 6) → px_W E mX6_takeWord (d + 1) 0 0 57 [.ref 17, .int x1] [] (pw_sI (pw_sI w 17 4 4) 17 5 x1) Q) :
    px_W E mX6_takeWord (d + 1) 0 0 33 [.ref 17, .int x1] [] w Q := by
  refine px_aload_n dX6_takeWord_33 rfl rfl ?_
  refine px_getR (v := 18) dX6_takeWord_34 fr_6_9 rfl (px_sh1 hw sh_17) (px_rf hw rf_17_0) (by decide) ?_
  refine px_iload_n dX6_takeWord_37 rfl rfl ?_
  refine px_lald dX6_takeWord_38 (px_sh2 hw sh_18) (by decide) j1 hj1 hl1 ?_
  refine px_aload_n dX6_takeWord_39 rfl rfl ?_
  refine px_getL dX6_takeWord_40 fr_6_51 rfl (px_sh1 hw sh_17) ?_
  refine px_lcmp_ne (tgt := 57) dX6_takeWord_43 dX6_takeWord_44 (by decide) (fun h1 => ?_) (fun h1 => ?_)
  ·
    exact (k1 h1)
  ·
    refine px_aload_n dX6_takeWord_47 rfl rfl ?_
    refine px_iconst dX6_takeWord_48 ic_4 ?_
    refine px_putI dX6_takeWord_49 fl_6_67 (Or.inl rfl) rfl (px_sh1 hw sh_17) rfl rfl (by omega) ?_
    refine px_aload_n dX6_takeWord_52 rfl rfl ?_
    refine px_iload_n dX6_takeWord_53 rfl rfl ?_
    refine px_putI dX6_takeWord_54 fl_6_58 (Or.inl rfl) rfl (px_sh1 (hI hw) sh_17) rfl rfl (by omega) ?_
    exact (k2 h1)
theorem bX6_takeWord_57 {E : px_E} {d : Nat} {w : pw_W} {Q : Option Value → pw_W → Prop} {t : ct_T} (hw : w.1 = cs t) {x1 : Int32}  
    (k1 : px_W E mX6_takeWord (d + 1) 0 0 27 [.ref 17, .int (x1 + 1)] [] w Q) :
    px_W E mX6_takeWord (d + 1) 0 0 57 [.ref 17, .int x1] [] w Q := by
  refine px_iinc (ls' := [.ref 17, .int (x1 + 1)]) dX6_takeWord_57 ⟨by decide, rfl⟩ rfl rfl rfl ?_
  refine px_goto (tgt := 27) dX6_takeWord_60 (by decide) ?_
  exact k1
theorem dX6_takeNumber_0 : decode mX6_takeNumber.2.1 0 = .ok (.aload_n 0, 1) := by decide +kernel
theorem dX6_takeNumber_1 : decode mX6_takeNumber.2.1 1 = .ok (.getfield 42, 3) := by decide +kernel
theorem dX6_takeNumber_4 : decode mX6_takeNumber.2.1 4 = .ok (.aload_n 0, 1) := by decide +kernel
theorem dX6_takeNumber_5 : decode mX6_takeNumber.2.1 5 = .ok (.getfield 39, 3) := by decide +kernel
theorem dX6_takeNumber_8 : decode mX6_takeNumber.2.1 8 = .ok (.if_icmp .ge 35, 3) := by decide +kernel
theorem dX6_takeNumber_11 : decode mX6_takeNumber.2.1 11 = .ok (.aload_n 0, 1) := by decide +kernel
theorem dX6_takeNumber_12 : decode mX6_takeNumber.2.1 12 = .ok (.getfield 13, 3) := by decide +kernel
theorem dX6_takeNumber_15 : decode mX6_takeNumber.2.1 15 = .ok (.aload_n 0, 1) := by decide +kernel
theorem dX6_takeNumber_16 : decode mX6_takeNumber.2.1 16 = .ok (.getfield 42, 3) := by decide +kernel
theorem dX6_takeNumber_19 : decode mX6_takeNumber.2.1 19 = .ok (.baload, 1) := by decide +kernel
theorem dX6_takeNumber_20 : decode mX6_takeNumber.2.1 20 = .ok (.bipush 97, 2) := by decide +kernel
theorem dX6_takeNumber_22 : decode mX6_takeNumber.2.1 22 = .ok (.if_icmp .lt 21, 3) := by decide +kernel
theorem dX6_takeNumber_25 : decode mX6_takeNumber.2.1 25 = .ok (.aload_n 0, 1) := by decide +kernel
theorem dX6_takeNumber_26 : decode mX6_takeNumber.2.1 26 = .ok (.getfield 13, 3) := by decide +kernel
theorem dX6_takeNumber_29 : decode mX6_takeNumber.2.1 29 = .ok (.aload_n 0, 1) := by decide +kernel
theorem dX6_takeNumber_30 : decode mX6_takeNumber.2.1 30 = .ok (.getfield 42, 3) := by decide +kernel
theorem dX6_takeNumber_33 : decode mX6_takeNumber.2.1 33 = .ok (.baload, 1) := by decide +kernel
theorem dX6_takeNumber_34 : decode mX6_takeNumber.2.1 34 = .ok (.bipush 122, 2) := by decide +kernel
theorem dX6_takeNumber_36 : decode mX6_takeNumber.2.1 36 = .ok (.if_icmp .gt 7, 3) := by decide +kernel
theorem dX6_takeNumber_39 : decode mX6_takeNumber.2.1 39 = .ok (.iconst 1, 1) := by decide +kernel
theorem dX6_takeNumber_40 : decode mX6_takeNumber.2.1 40 = .ok (.goto 4, 3) := by decide +kernel
theorem dX6_takeNumber_43 : decode mX6_takeNumber.2.1 43 = .ok (.iconst 0, 1) := by decide +kernel
theorem dX6_takeNumber_44 : decode mX6_takeNumber.2.1 44 = .ok (.istore_n 1, 1) := by decide +kernel
theorem dX6_takeNumber_45 : decode mX6_takeNumber.2.1 45 = .ok (.aload_n 0, 1) := by decide +kernel
theorem dX6_takeNumber_46 : decode mX6_takeNumber.2.1 46 = .ok (.aload_n 0, 1) := by decide +kernel
theorem dX6_takeNumber_47 : decode mX6_takeNumber.2.1 47 = .ok (.getfield 42, 3) := by decide +kernel
theorem dX6_takeNumber_50 : decode mX6_takeNumber.2.1 50 = .ok (.aload_n 0, 1) := by decide +kernel
theorem dX6_takeNumber_51 : decode mX6_takeNumber.2.1 51 = .ok (.getfield 48, 3) := by decide +kernel
theorem dX6_takeNumber_54 : decode mX6_takeNumber.2.1 54 = .ok (.isub, 1) := by decide +kernel
theorem dX6_takeNumber_55 : decode mX6_takeNumber.2.1 55 = .ok (.iconst 4, 1) := by decide +kernel
theorem dX6_takeNumber_56 : decode mX6_takeNumber.2.1 56 = .ok (.if_icmp .gt 7, 3) := by decide +kernel
theorem dX6_takeNumber_59 : decode mX6_takeNumber.2.1 59 = .ok (.iload_n 1, 1) := by decide +kernel
theorem dX6_takeNumber_60 : decode mX6_takeNumber.2.1 60 = .ok (.ifCond .eq 7, 3) := by decide +kernel
theorem dX6_takeNumber_63 : decode mX6_takeNumber.2.1 63 = .ok (.iconst 1, 1) := by decide +kernel
theorem dX6_takeNumber_64 : decode mX6_takeNumber.2.1 64 = .ok (.goto 4, 3) := by decide +kernel
theorem dX6_takeNumber_67 : decode mX6_takeNumber.2.1 67 = .ok (.iconst 2, 1) := by decide +kernel
theorem dX6_takeNumber_68 : decode mX6_takeNumber.2.1 68 = .ok (.putfield 67, 3) := by decide +kernel
theorem dX6_takeNumber_71 : decode mX6_takeNumber.2.1 71 = .ok (.return_, 1) := by decide +kernel
theorem bX6_takeNumber_0 {E : px_E} {d : Nat} {w : pw_W} {Q : Option Value → pw_W → Prop} {t : ct_T} (hw : w.1 = cs t) (htx : t.2.2 = 2) 
    (k1 : (pw_I w 17 2) ≤ (pw_I w 17 3) → px_W E mX6_takeNumber (d + 1) 0 0 43 [.ref 17, .null] [] w Q)
    (k2 : ¬ (pw_I w 17 2) ≤ (pw_I w 17 3) → px_W E mX6_takeNumber (d + 1) 0 0 11 [.ref 17, .null] [] w Q) :
    px_W E mX6_takeNumber (d + 1) 0 0 0 [.ref 17, .null] [] w Q := by
  refine px_aload_n dX6_takeNumber_0 rfl rfl ?_
  refine px_getI dX6_takeNumber_1 fr_6_42 rfl (px_sh1 hw sh_17) ?_
  refine px_aload_n dX6_takeNumber_4 rfl rfl ?_
  refine px_getI dX6_takeNumber_5 fr_6_39 rfl (px_sh1 hw sh_17) ?_
  refine px_icmp_ge (tgt := 43) dX6_takeNumber_8 (by decide) (fun h1 => ?_) (fun h1 => ?_)
  ·
    exact (k1 h1)
  ·
    exact (k2 h1)
theorem eX6_takeNumber {E : px_E} {d : Nat} {w : pw_W} {Q : Option Value → pw_W → Prop} {t : ct_T} (hw : w.1 = cs t) (htx : t.2.2 = 2) 
    (k1 : (pw_I w 17 2) ≤ (pw_I w 17 3) → px_W E mX6_takeNumber (d + 1) 0 0 43 [.ref 17, .null] [] w Q)
    (k2 : ¬ (pw_I w 17 2) ≤ (pw_I w 17 3) → px_W E mX6_takeNumber (d + 1) 0 0 11 [.ref 17, .null] [] w Q) :
    px_Call E (d + 1) 0 0 mX6_takeNumber [.ref 17] w Q :=
  px_enter (k := 1) (by decide) (Nat.le_of_ble_eq_true rfl) rfl (px_forget (bX6_takeNumber_0 hw htx k1 k2) ⟨Or.inr rfl, Or.inl rfl, trivial⟩)
theorem bX6_takeNumber_11 {E : px_E} {d : Nat} {w : pw_W} {Q : Option Value → pw_W → Prop} {t : ct_T} (hw : w.1 = cs t) (htx : t.2.2 = 2) (j1 : Nat) (hj1 : (pw_I w 17 3) = nI j1) (hl1 : j1 < 1600)
    (k1 : (pw_I w 2 j1) < 97 → px_W E mX6_takeNumber (d + 1) 0 0 43 [.ref 17, .null] [] w Q)
    (k2 : ¬ (pw_I w 2 j1) < 97 → px_W E mX6_takeNumber (d + 1) 0 0 25 [.ref 17, .null] [] w Q) :
    px_W E mX6_takeNumber (d + 1) 0 0 11 [.ref 17, .null] [] w Q := by
  refine px_aload_n dX6_takeNumber_11 rfl rfl ?_
  refine px_getR (v := 2) dX6_takeNumber_12 fr_6_13 rfl (px_sh1 hw sh_17) (px_rf hw ((rf_17_1 (t := t)).trans htx)) (by decide) ?_
  refine px_aload_n dX6_takeNumber_15 rfl rfl ?_
  refine px_getI dX6_takeNumber_16 fr_6_42 rfl (px_sh1 hw sh_17) ?_
  refine px_bald dX6_takeNumber_19 (px_sh2 hw sh_2) (by decide) j1 hj1 hl1 ?_
  refine px_bipush dX6_takeNumber_20 bp_97 ?_
  refine px_icmp_lt (tgt := 43) dX6_takeNumber_22 (by decide) (fun h1 => ?_) (fun h1 => ?_)
  ·
    exact (k1 h1)
  ·
    exact (k2 h1)
theorem bX6_takeNumber_25 {E : px_E} {d : Nat} {w : pw_W} {Q : Option Value → pw_W → Prop} {t : ct_T} (hw : w.1 = cs t) (htx : t.2.2 = 2) (j1 : Nat) (hj1 : (pw_I w 17 3) = nI j1) (hl1 : j1 < 1600)
    (k1 : 122 < (pw_I w 2 j1) → px_W E mX6_takeNumber (d + 1) 0 0 43 [.ref 17, .null] [] w Q)
    (k2 : ¬ 122 < (pw_I w 2 j1) → px_W E mX6_takeNumber (d + 1) 0 0 44 [.ref 17, .null] [.int 1] w Q) :
    px_W E mX6_takeNumber (d + 1) 0 0 25 [.ref 17, .null] [] w Q := by
  refine px_aload_n dX6_takeNumber_25 rfl rfl ?_
  refine px_getR (v := 2) dX6_takeNumber_26 fr_6_13 rfl (px_sh1 hw sh_17) (px_rf hw ((rf_17_1 (t := t)).trans htx)) (by decide) ?_
  refine px_aload_n dX6_takeNumber_29 rfl rfl ?_
  refine px_getI dX6_takeNumber_30 fr_6_42 rfl (px_sh1 hw sh_17) ?_
  refine px_bald dX6_takeNumber_33 (px_sh2 hw sh_2) (by decide) j1 hj1 hl1 ?_
  refine px_bipush dX6_takeNumber_34 bp_122 ?_
  refine px_icmp_gt (tgt := 43) dX6_takeNumber_36 (by decide) (fun h1 => ?_) (fun h1 => ?_)
  ·
    exact (k1 h1)
  ·
    refine px_iconst dX6_takeNumber_39 ic_1 ?_
    refine px_goto (tgt := 44) dX6_takeNumber_40 (by decide) ?_
    exact (k2 h1)
theorem bX6_takeNumber_43 {E : px_E} {d : Nat} {w : pw_W} {Q : Option Value → pw_W → Prop} {t : ct_T} (hw : w.1 = cs t) (htx : t.2.2 = 2) 
    (k1 : px_W E mX6_takeNumber (d + 1) 0 0 44 [.ref 17, .null] [.int 0] w Q) :
    px_W E mX6_takeNumber (d + 1) 0 0 43 [.ref 17, .null] [] w Q := by
  refine px_iconst dX6_takeNumber_43 ic_0 ?_
  exact k1
theorem bX6_takeNumber_44 {E : px_E} {d : Nat} {w : pw_W} {Q : Option Value → pw_W → Prop} {t : ct_T} (hw : w.1 = cs t) {y0 : Int32} (htx : t.2.2 = 2) 
    (k1 : 4 < ((pw_I w 17 3) - (pw_I w 17 7)) → px_W E mX6_takeNumber (d + 1) 0 0 63 [.null, .null] [.ref 17] w Q)
    (k2 : ¬ 4 < ((pw_I w 17 3) - (pw_I w 17 7)) → y0 = 0 → px_W E mX6_takeNumber (d + 1) 0 0 68 [.null, .null] [.int 2, .ref 17] w Q)
    (k3 : ¬ 4 < ((pw_I w 17 3) - (pw_I w 17 7)) → ¬ y0 = 0 → px_W E mX6_takeNumber (d + 1) 0 0 63 [.null, .null] [.ref 17] w Q) :
    px_W E mX6_takeNumber (d + 1) 0 0 44 [.ref 17, .null] [.int y0] w Q := by
  refine px_istore_n (ls' := [.ref 17, .int y0]) dX6_takeNumber_44 rfl ⟨by decide, rfl⟩ rfl ?_
  refine px_aload_n dX6_takeNumber_45 rfl rfl ?_
  refine px_aload_n dX6_takeNumber_46 rfl rfl ?_
  refine px_getI dX6_takeNumber_47 fr_6_42 rfl (px_sh1 hw sh_17) ?_
  refine px_aload_n dX6_takeNumber_50 rfl rfl ?_
  refine px_getI dX6_takeNumber_51 fr_6_48 rfl (px_sh1 hw sh_17) ?_
  refine px_isub dX6_takeNumber_54 ?_
  refine px_iconst dX6_takeNumber_55 ic_4 ?_
  refine px_icmp_gt (tgt := 63) dX6_takeNumber_56 (by decide) (fun h1 => ?_) (fun h1 => ?_)
  ·
    exact px_forget (k1 h1) ⟨Or.inl rfl, Or.inl rfl, trivial⟩
  ·
    refine px_iload_n dX6_takeNumber_59 rfl rfl ?_
    refine px_if_eq (tgt := 67) dX6_takeNumber_60 (by decide) (fun h2 => ?_) (fun h2 => ?_)
    ·
      refine px_iconst dX6_takeNumber_67 ic_2 ?_
      exact px_forget (k2 h1 h2) ⟨Or.inl rfl, Or.inl rfl, trivial⟩
    ·
      exact px_forget (k3 h1 h2) ⟨Or.inl rfl, Or.inl rfl, trivial⟩
theorem bX6_takeNumber_63 {E : px_E} {d : Nat} {w : pw_W} {Q : Option Value → pw_W → Prop} {t : ct_T} (hw : w.1 = cs t) (htx : t.2.2 = 2) 
    (k1 : px_W E mX6_takeNumber (d + 1) 0 0 68 [.null, .null] [.int 1, .ref 17] w Q) :
    px_W E mX6_takeNumber (d + 1) 0 0 63 [.null, .null] [.ref 17] w Q := by
  refine px_iconst dX6_takeNumber_63 ic_1 ?_
  refine px_goto (tgt := 68) dX6_takeNumber_64 (by decide) ?_
  exact k1
theorem bX6_takeNumber_68 {E : px_E} {d : Nat} {w : pw_W} {Q : Option Value → pw_W → Prop} {t : ct_T} (hw : w.1 = cs t) {y1 : Int32} (htx : t.2.2 = 2) 
    (k1 : Q none (pw_sI w 17 4 y1)) :
    px_W E mX6_takeNumber (d + 1) 0 0 68 [.null, .null] [.int y1, .ref 17] w Q := by
  refine px_putI dX6_takeNumber_68 fl_6_67 (Or.inl rfl) rfl (px_sh1 hw sh_17) rfl rfl (by omega) ?_
  exact px_return dX6_takeNumber_71 rfl k1
theorem dX6_takeSignOrEnd_0 : decode mX6_takeSignOrEnd.2.1 0 = .ok (.aload_n 0, 1) := by decide +kernel
theorem dX6_takeSignOrEnd_1 : decode mX6_takeSignOrEnd.2.1 1 = .ok (.getfield 42, 3) := by decide +kernel
theorem dX6_takeSignOrEnd_4 : decode mX6_takeSignOrEnd.2.1 4 = .ok (.aload_n 0, 1) := by decide +kernel
theorem dX6_takeSignOrEnd_5 : decode mX6_takeSignOrEnd.2.1 5 = .ok (.getfield 39, 3) := by decide +kernel
theorem dX6_takeSignOrEnd_8 : decode mX6_takeSignOrEnd.2.1 8 = .ok (.if_icmp .lt 9, 3) := by decide +kernel
theorem dX6_takeSignOrEnd_11 : decode mX6_takeSignOrEnd.2.1 11 = .ok (.aload_n 0, 1) := by decide +kernel
theorem dX6_takeSignOrEnd_12 : decode mX6_takeSignOrEnd.2.1 12 = .ok (.iconst 0, 1) := by decide +kernel
theorem dX6_takeSignOrEnd_13 : decode mX6_takeSignOrEnd.2.1 13 = .ok (.putfield 67, 3) := by decide +kernel
theorem dX6_takeSignOrEnd_16 : decode mX6_takeSignOrEnd.2.1 16 = .ok (.return_, 1) := by decide +kernel
theorem dX6_takeSignOrEnd_17 : decode mX6_takeSignOrEnd.2.1 17 = .ok (.aload_n 0, 1) := by decide +kernel
theorem dX6_takeSignOrEnd_18 : decode mX6_takeSignOrEnd.2.1 18 = .ok (.aload_n 0, 1) := by decide +kernel
theorem dX6_takeSignOrEnd_19 : decode mX6_takeSignOrEnd.2.1 19 = .ok (.getfield 13, 3) := by decide +kernel
theorem dX6_takeSignOrEnd_22 : decode mX6_takeSignOrEnd.2.1 22 = .ok (.aload_n 0, 1) := by decide +kernel
theorem dX6_takeSignOrEnd_23 : decode mX6_takeSignOrEnd.2.1 23 = .ok (.getfield 42, 3) := by decide +kernel
theorem dX6_takeSignOrEnd_26 : decode mX6_takeSignOrEnd.2.1 26 = .ok (.baload, 1) := by decide +kernel
theorem dX6_takeSignOrEnd_27 : decode mX6_takeSignOrEnd.2.1 27 = .ok (.putfield 58, 3) := by decide +kernel
theorem dX6_takeSignOrEnd_30 : decode mX6_takeSignOrEnd.2.1 30 = .ok (.aload_n 0, 1) := by decide +kernel
theorem dX6_takeSignOrEnd_31 : decode mX6_takeSignOrEnd.2.1 31 = .ok (.aload_n 0, 1) := by decide +kernel
theorem dX6_takeSignOrEnd_32 : decode mX6_takeSignOrEnd.2.1 32 = .ok (.getfield 58, 3) := by decide +kernel
theorem dX6_takeSignOrEnd_35 : decode mX6_takeSignOrEnd.2.1 35 = .ok (.ifCond .le 20, 3) := by decide +kernel
theorem dX6_takeSignOrEnd_38 : decode mX6_takeSignOrEnd.2.1 38 = .ok (.ldc 70, 2) := by decide +kernel
theorem dX6_takeSignOrEnd_40 : decode mX6_takeSignOrEnd.2.1 40 = .ok (.aload_n 0, 1) := by decide +kernel
theorem dX6_takeSignOrEnd_41 : decode mX6_takeSignOrEnd.2.1 41 = .ok (.getfield 58, 3) := by decide +kernel
theorem dX6_takeSignOrEnd_44 : decode mX6_takeSignOrEnd.2.1 44 = .ok (.i2c, 1) := by decide +kernel
theorem dX6_takeSignOrEnd_45 : decode mX6_takeSignOrEnd.2.1 45 = .ok (.invokevirtual 72, 3) := by decide +kernel
theorem dX6_takeSignOrEnd_48 : decode mX6_takeSignOrEnd.2.1 48 = .ok (.ifCond .lt 7, 3) := by decide +kernel
theorem dX6_takeSignOrEnd_51 : decode mX6_takeSignOrEnd.2.1 51 = .ok (.iconst 5, 1) := by decide +kernel
theorem dX6_takeSignOrEnd_52 : decode mX6_takeSignOrEnd.2.1 52 = .ok (.goto 4, 3) := by decide +kernel
theorem dX6_takeSignOrEnd_55 : decode mX6_takeSignOrEnd.2.1 55 = .ok (.iconst 1, 1) := by decide +kernel
theorem dX6_takeSignOrEnd_56 : decode mX6_takeSignOrEnd.2.1 56 = .ok (.putfield 67, 3) := by decide +kernel
theorem dX6_takeSignOrEnd_59 : decode mX6_takeSignOrEnd.2.1 59 = .ok (.aload_n 0, 1) := by decide +kernel
theorem dX6_takeSignOrEnd_60 : decode mX6_takeSignOrEnd.2.1 60 = .ok (.dup, 1) := by decide +kernel
theorem dX6_takeSignOrEnd_61 : decode mX6_takeSignOrEnd.2.1 61 = .ok (.getfield 42, 3) := by decide +kernel
theorem dX6_takeSignOrEnd_64 : decode mX6_takeSignOrEnd.2.1 64 = .ok (.iconst 1, 1) := by decide +kernel
theorem dX6_takeSignOrEnd_65 : decode mX6_takeSignOrEnd.2.1 65 = .ok (.iadd, 1) := by decide +kernel
theorem dX6_takeSignOrEnd_66 : decode mX6_takeSignOrEnd.2.1 66 = .ok (.putfield 42, 3) := by decide +kernel
theorem dX6_takeSignOrEnd_69 : decode mX6_takeSignOrEnd.2.1 69 = .ok (.return_, 1) := by decide +kernel
theorem bX6_takeSignOrEnd_0 {E : px_E} {d : Nat} {w : pw_W} {Q : Option Value → pw_W → Prop} {t : ct_T} (hw : w.1 = cs t)  
    (k1 : (pw_I w 17 3) < (pw_I w 17 2) → px_W E mX6_takeSignOrEnd (d + 1) 0 0 17 [.ref 17] [] w Q)
    (k2 : ¬ (pw_I w 17 3) < (pw_I w 17 2) → Q none (pw_sI w 17 4 0)) :
    px_W E mX6_takeSignOrEnd (d + 1) 0 0 0 [.ref 17] [] w Q := by
  refine px_aload_n dX6_takeSignOrEnd_0 rfl rfl ?_
  refine px_getI dX6_takeSignOrEnd_1 fr_6_42 rfl (px_sh1 hw sh_17) ?_
  refine px_aload_n dX6_takeSignOrEnd_4 rfl rfl ?_
  refine px_getI dX6_takeSignOrEnd_5 fr_6_39 rfl (px_sh1 hw sh_17) ?_
  refine px_icmp_lt (tgt := 17) dX6_takeSignOrEnd_8 (by decide) (fun h1 => ?_) (fun h1 => ?_)
  ·
    exact (k1 h1)
  ·
    refine px_aload_n dX6_takeSignOrEnd_11 rfl rfl ?_
    refine px_iconst dX6_takeSignOrEnd_12 ic_0 ?_
    refine px_putI dX6_takeSignOrEnd_13 fl_6_67 (Or.inl rfl) rfl (px_sh1 hw sh_17) rfl rfl (by omega) ?_
    exact px_return dX6_takeSignOrEnd_16 rfl (k2 h1)
theorem eX6_takeSignOrEnd {E : px_E} {d : Nat} {w : pw_W} {Q : Option Value → pw_W → Prop} {t : ct_T} (hw : w.1 = cs t)  
    (k1 : (pw_I w 17 3) < (pw_I w 17 2) → px_W E mX6_takeSignOrEnd (d + 1) 0 0 17 [.ref 17] [] w Q)
    (k2 : ¬ (pw_I w 17 3) < (pw_I w 17 2) → Q none (pw_sI w 17 4 0)) :
    px_Call E (d + 1) 0 0 mX6_takeSignOrEnd [.ref 17] w Q :=
  px_enter (k := 0) (by decide) (Nat.le_of_ble_eq_true rfl) rfl (px_forget (bX6_takeSignOrEnd_0 hw k1 k2) ⟨Or.inr rfl, trivial⟩)
theorem bX6_takeSignOrEnd_48 {E : px_E} {d : Nat} {w : pw_W} {Q : Option Value → pw_W → Prop} {t : ct_T} (hw : w.1 = cs t) {y1 : Int32}  
    (k1 : y1 < 0 → px_W E mX6_takeSignOrEnd (d + 1) 0 0 55 [.ref 17] [.ref 17] w Q)
    (k2 : ¬ y1 < 0 → px_W E mX6_takeSignOrEnd (d + 1) 0 0 56 [.ref 17] [.int 5, .ref 17] w Q) :
    px_W E mX6_takeSignOrEnd (d + 1) 0 0 48 [.ref 17] [.int y1, .ref 17] w Q := by
  refine px_if_lt (tgt := 55) dX6_takeSignOrEnd_48 (by decide) (fun h1 => ?_) (fun h1 => ?_)
  ·
    exact (k1 h1)
  ·
    refine px_iconst dX6_takeSignOrEnd_51 ic_5 ?_
    refine px_goto (tgt := 56) dX6_takeSignOrEnd_52 (by decide) ?_
    exact (k2 h1)
theorem bX6_takeSignOrEnd_55 {E : px_E} {d : Nat} {w : pw_W} {Q : Option Value → pw_W → Prop} {t : ct_T} (hw : w.1 = cs t)  
    (k1 : px_W E mX6_takeSignOrEnd (d + 1) 0 0 56 [.ref 17] [.int 1, .ref 17] w Q) :
    px_W E mX6_takeSignOrEnd (d + 1) 0 0 55 [.ref 17] [.ref 17] w Q := by
  refine px_iconst dX6_takeSignOrEnd_55 ic_1 ?_
  exact k1
theorem bX6_takeSignOrEnd_56 {E : px_E} {d : Nat} {w : pw_W} {Q : Option Value → pw_W → Prop} {t : ct_T} (hw : w.1 = cs t) {y1 : Int32}  
    (k1 : Q none (pw_sI (pw_sI w 17 4 y1) 17 3 ((pw_I w 17 3) + 1))) :
    px_W E mX6_takeSignOrEnd (d + 1) 0 0 56 [.ref 17] [.int y1, .ref 17] w Q := by
  refine px_putI dX6_takeSignOrEnd_56 fl_6_67 (Or.inl rfl) rfl (px_sh1 hw sh_17) rfl rfl (by omega) ?_
  refine px_aload_n dX6_takeSignOrEnd_59 rfl rfl ?_
  refine px_dup dX6_takeSignOrEnd_60 rfl ?_
  refine px_getIv (v := (pw_I w 17 3)) dX6_takeSignOrEnd_61 fr_6_42 rfl (px_sh1 (hI hw) sh_17) rfl ?_
  refine px_iconst dX6_takeSignOrEnd_64 ic_1 ?_
  refine px_iadd dX6_takeSignOrEnd_65 ?_
  refine px_putI dX6_takeSignOrEnd_66 fl_6_42 (Or.inl rfl) rfl (px_sh1 (hI hw) sh_17) rfl rfl (by omega) ?_
  exact px_return dX6_takeSignOrEnd_69 rfl k1
