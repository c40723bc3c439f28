theorem dX10_peace_0 : decode mX10_peace.2.1 0 = .ok (.iload_n 1, 1) := by decide +kernel
theorem dX10_peace_1 : decode mX10_peace.2.1 1 = .ok (.iconst 0, 1) := by decide +kernel
theorem dX10_peace_2 : decode mX10_peace.2.1 2 = .ok (.bipush 14, 2) := by decide +kernel
theorem dX10_peace_4 : decode mX10_peace.2.1 4 = .ok (.invokestatic 440, 3) := by decide +kernel
theorem dX10_peace_7 : decode mX10_peace.2.1 7 = .ok (.ifCond .eq 12, 3) := by decide +kernel
theorem dX10_peace_10 : decode mX10_peace.2.1 10 = .ok (.iload_n 2, 1) := by decide +kernel
theorem dX10_peace_11 : decode mX10_peace.2.1 11 = .ok (.iconst 0, 1) := by decide +kernel
theorem dX10_peace_12 : decode mX10_peace.2.1 12 = .ok (.iconst 1, 1) := by decide +kernel
theorem dX10_peace_13 : decode mX10_peace.2.1 13 = .ok (.invokestatic 440, 3) := by decide +kernel
theorem dX10_peace_16 : decode mX10_peace.2.1 16 = .ok (.ifCond .ne 5, 3) := by decide +kernel
theorem dX10_peace_19 : decode mX10_peace.2.1 19 = .ok (.iconst (-1), 1) := by decide +kernel
theorem dX10_peace_20 : decode mX10_peace.2.1 20 = .ok (.ireturn, 1) := by decide +kernel
theorem dX10_peace_21 : decode mX10_peace.2.1 21 = .ok (.iconst 1, 1) := by decide +kernel
theorem dX10_peace_22 : decode mX10_peace.2.1 22 = .ok (.aload_n 0, 1) := by decide +kernel
theorem dX10_peace_23 : decode mX10_peace.2.1 23 = .ok (.getfield 407, 3) := by decide +kernel
theorem dX10_peace_26 : decode mX10_peace.2.1 26 = .ok (.ishl, 1) := by decide +kernel
theorem dX10_peace_27 : decode mX10_peace.2.1 27 = .ok (.iconst 1, 1) := by decide +kernel
theorem dX10_peace_28 : decode mX10_peace.2.1 28 = .ok (.isub, 1) := by decide +kernel
theorem dX10_peace_29 : decode mX10_peace.2.1 29 = .ok (.aload_n 0, 1) := by decide +kernel
theorem dX10_peace_30 : decode mX10_peace.2.1 30 = .ok (.getfield 99, 3) := by decide +kernel
theorem dX10_peace_33 : decode mX10_peace.2.1 33 = .ok (.bipush 12, 2) := by decide +kernel
theorem dX10_peace_35 : decode mX10_peace.2.1 35 = .ok (.iaload, 1) := by decide +kernel
theorem dX10_peace_36 : decode mX10_peace.2.1 36 = .ok (.iconst (-1), 1) := by decide +kernel
theorem dX10_peace_37 : decode mX10_peace.2.1 37 = .ok (.ixor, 1) := by decide +kernel
theorem dX10_peace_38 : decode mX10_peace.2.1 38 = .ok (.iand, 1) := by decide +kernel
theorem dX10_peace_39 : decode mX10_peace.2.1 39 = .ok (.istore_n 3, 1) := by decide +kernel
theorem dX10_peace_40 : decode mX10_peace.2.1 40 = .ok (.iconst (-1), 1) := by decide +kernel
theorem dX10_peace_41 : decode mX10_peace.2.1 41 = .ok (.istore 4, 2) := by decide +kernel
theorem dX10_peace_43 : decode mX10_peace.2.1 43 = .ok (.iconst 0, 1) := by decide +kernel
theorem dX10_peace_44 : decode mX10_peace.2.1 44 = .ok (.istore 5, 2) := by decide +kernel
theorem dX10_peace_46 : decode mX10_peace.2.1 46 = .ok (.iload 5, 2) := by decide +kernel
theorem dX10_peace_48 : decode mX10_peace.2.1 48 = .ok (.iload_n 3, 1) := by decide +kernel
theorem dX10_peace_49 : decode mX10_peace.2.1 49 = .ok (.if_icmp .gt 75, 3) := by decide +kernel
theorem dX10_peace_52 : decode mX10_peace.2.1 52 = .ok (.iload 5, 2) := by decide +kernel
theorem dX10_peace_54 : decode mX10_peace.2.1 54 = .ok (.iload_n 3, 1) := by decide +kernel
theorem dX10_peace_55 : decode mX10_peace.2.1 55 = .ok (.iconst (-1), 1) := by decide +kernel
theorem dX10_peace_56 : decode mX10_peace.2.1 56 = .ok (.ixor, 1) := by decide +kernel
theorem dX10_peace_57 : decode mX10_peace.2.1 57 = .ok (.iand, 1) := by decide +kernel
theorem dX10_peace_58 : decode mX10_peace.2.1 58 = .ok (.ifCond .ne 60, 3) := by decide +kernel
theorem dX10_peace_61 : decode mX10_peace.2.1 61 = .ok (.iload 4, 2) := by decide +kernel
theorem dX10_peace_63 : decode mX10_peace.2.1 63 = .ok (.ifCond .lt 19, 3) := by decide +kernel
theorem dX10_peace_66 : decode mX10_peace.2.1 66 = .ok (.iload 5, 2) := by decide +kernel
theorem dX10_peace_68 : decode mX10_peace.2.1 68 = .ok (.invokestatic 510, 3) := by decide +kernel
theorem dX10_peace_71 : decode mX10_peace.2.1 71 = .ok (.iload 4, 2) := by decide +kernel
theorem dX10_peace_73 : decode mX10_peace.2.1 73 = .ok (.invokestatic 510, 3) := by decide +kernel
theorem dX10_peace_76 : decode mX10_peace.2.1 76 = .ok (.if_icmp .lt 6, 3) := by decide +kernel
theorem dX10_peace_79 : decode mX10_peace.2.1 79 = .ok (.goto 39, 3) := by decide +kernel
theorem dX10_peace_82 : decode mX10_peace.2.1 82 = .ok (.aload_n 0, 1) := by decide +kernel
theorem dX10_peace_83 : decode mX10_peace.2.1 83 = .ok (.invokevirtual 480, 3) := by decide +kernel
theorem dX10_peace_86 : decode mX10_peace.2.1 86 = .ok (.aload_n 0, 1) := by decide +kernel
theorem dX10_peace_87 : decode mX10_peace.2.1 87 = .ok (.getfield 102, 3) := by decide +kernel
theorem dX10_peace_90 : decode mX10_peace.2.1 90 = .ok (.bipush 12, 2) := by decide +kernel
theorem dX10_peace_92 : decode mX10_peace.2.1 92 = .ok (.dup2, 1) := by decide +kernel
theorem dX10_peace_93 : decode mX10_peace.2.1 93 = .ok (.iaload, 1) := by decide +kernel
theorem dX10_peace_94 : decode mX10_peace.2.1 94 = .ok (.iload 5, 2) := by decide +kernel
theorem dX10_peace_96 : decode mX10_peace.2.1 96 = .ok (.ior, 1) := by decide +kernel
theorem dX10_peace_97 : decode mX10_peace.2.1 97 = .ok (.iastore, 1) := by decide +kernel
theorem dX10_peace_98 : decode mX10_peace.2.1 98 = .ok (.aload_n 0, 1) := by decide +kernel
theorem dX10_peace_99 : decode mX10_peace.2.1 99 = .ok (.iconst 1, 1) := by decide +kernel
theorem dX10_peace_100 : decode mX10_peace.2.1 100 = .ok (.aload_n 0, 1) := by decide +kernel
theorem dX10_peace_101 : decode mX10_peace.2.1 101 = .ok (.getfield 404, 3) := by decide +kernel
theorem dX10_peace_104 : decode mX10_peace.2.1 104 = .ok (.ishl, 1) := by decide +kernel
theorem dX10_peace_105 : decode mX10_peace.2.1 105 = .ok (.iconst 1, 1) := by decide +kernel
theorem dX10_peace_106 : decode mX10_peace.2.1 106 = .ok (.isub, 1) := by decide +kernel
theorem dX10_peace_107 : decode mX10_peace.2.1 107 = .ok (.iload_n 1, 1) := by decide +kernel
theorem dX10_peace_108 : decode mX10_peace.2.1 108 = .ok (.invokevirtual 513, 3) := by decide +kernel
theorem dX10_peace_111 : decode mX10_peace.2.1 111 = .ok (.ifCond .eq 7, 3) := by decide +kernel
theorem dX10_peace_114 : decode mX10_peace.2.1 114 = .ok (.iload 5, 2) := by decide +kernel
theorem dX10_peace_116 : decode mX10_peace.2.1 116 = .ok (.istore 4, 2) := by decide +kernel
theorem dX10_peace_118 : decode mX10_peace.2.1 118 = .ok (.iinc 5 1, 3) := by decide +kernel
theorem dX10_peace_121 : decode mX10_peace.2.1 121 = .ok (.goto (-75), 3) := by decide +kernel
theorem dX10_peace_124 : decode mX10_peace.2.1 124 = .ok (.iload 4, 2) := by decide +kernel
theorem dX10_peace_126 : decode mX10_peace.2.1 126 = .ok (.ifCond .ge 7, 3) := by decide +kernel
theorem dX10_peace_129 : decode mX10_peace.2.1 129 = .ok (.iconst (-1), 1) := by decide +kernel
theorem dX10_peace_130 : decode mX10_peace.2.1 130 = .ok (.goto 17, 3) := by decide +kernel
theorem dX10_peace_133 : decode mX10_peace.2.1 133 = .ok (.iload_n 2, 1) := by decide +kernel
theorem dX10_peace_134 : decode mX10_peace.2.1 134 = .ok (.ifCond .ne 11, 3) := by decide +kernel
theorem dX10_peace_137 : decode mX10_peace.2.1 137 = .ok (.iload 4, 2) := by decide +kernel
theorem dX10_peace_139 : decode mX10_peace.2.1 139 = .ok (.invokestatic 510, 3) := by decide +kernel
theorem dX10_peace_142 : decode mX10_peace.2.1 142 = .ok (.goto 5, 3) := by decide +kernel
theorem dX10_peace_145 : decode mX10_peace.2.1 145 = .ok (.iload 4, 2) := by decide +kernel
theorem dX10_peace_147 : decode mX10_peace.2.1 147 = .ok (.ireturn, 1) := by decide +kernel
theorem bX10_peace_0 {E : px_E} {d : Nat} {w : pw_W} {Q : Option Value → pw_W → Prop} {t : ct_T} (hw : w.1 = cs t) {x1 x2 : Int32}  
    (k1 : ¬ (pX10_isIn x1 0 14) → px_W E mX10_peace (d + 2) 0 0 19 [.null, .null, .null, .null, .null, .null] [] w Q)
    (k2 : (pX10_isIn x1 0 14) → (pX10_isIn x2 0 1) → px_W E mX10_peace (d + 2) 0 0 21 [.ref 61, .int x1, .int x2, .null, .null, .null] [] w Q)
    (k3 : (pX10_isIn x1 0 14) → ¬ (pX10_isIn x2 0 1) → px_W E mX10_peace (d + 2) 0 0 19 [.null, .null, .null, .null, .null, .null] [] w Q) :
    px_W E mX10_peace (d + 2) 0 0 0 [.ref 61, .int x1, .int x2, .null, .null, .null] [] w Q := by
  refine px_iload_n dX10_peace_0 rfl rfl ?_
  refine px_iconst dX10_peace_1 ic_0 ?_
  refine px_bipush dX10_peace_2 bp_14 ?_
  refine px_callS (As := [.int x1, .int 0, .int 14]) (st := []) (rc := 0) (rs := 0) (mc := 0) (ms := 0) dX10_peace_4 lk_10_440 rfl rfl (Nat.le_of_ble_eq_true rfl) (sX10_isIn ?_)
  show px_W E mX10_peace (d + 2) 0 0 7 [.ref 61, .int x1, .int x2, .null, .null, .null] [.int (jb (pX10_isIn x1 0 14))] w Q
  refine px_jb_eq (tgt := 19) dX10_peace_7 (by decide) (fun h1 => ?_) (fun h1 => ?_)
  ·
    exact px_forget (k1 h1) ⟨Or.inl rfl, Or.inl rfl, Or.inl rfl, Or.inl rfl, Or.inl rfl, Or.inl rfl, trivial⟩
  ·
    refine px_iload_n dX10_peace_10 rfl rfl ?_
    refine px_iconst dX10_peace_11 ic_0 ?_
    refine px_iconst dX10_peace_12 ic_1 ?_
    refine px_callS (As := [.int x2, .int 0, .int 1]) (st := []) (rc := 0) (rs := 0) (mc := 0) (ms := 0) dX10_peace_13 lk_10_440 rfl rfl (Nat.le_of_ble_eq_true rfl) (sX10_isIn ?_)
    show px_W E mX10_peace (d + 2) 0 0 16 [.ref 61, .int x1, .int x2, .null, .null, .null] [.int (jb (pX10_isIn x2 0 1))] w Q
    refine px_jb_ne (tgt := 21) dX10_peace_16 (by decide) (fun h2 => ?_) (fun h2 => ?_)
    ·
      exact (k2 h1 h2)
    ·
      exact px_forget (k3 h1 h2) ⟨Or.inl rfl, Or.inl rfl, Or.inl rfl, Or.inl rfl, Or.inl rfl, Or.inl rfl, trivial⟩
theorem eX10_peace {E : px_E} {d : Nat} {w : pw_W} {Q : Option Value → pw_W → Prop} {t : ct_T} (hw : w.1 = cs t) {x1 x2 : Int32}  
    (k1 : ¬ (pX10_isIn x1 0 14) → px_W E mX10_peace (d + 2) 0 0 19 [.null, .null, .null, .null, .null, .null] [] w Q)
    (k2 : (pX10_isIn x1 0 14) → (pX10_isIn x2 0 1) → px_W E mX10_peace (d + 2) 0 0 21 [.ref 61, .int x1, .int x2, .null, .null, .null] [] w Q)
    (k3 : (pX10_isIn x1 0 14) → ¬ (pX10_isIn x2 0 1) → px_W E mX10_peace (d + 2) 0 0 19 [.null, .null, .null, .null, .null, .null] [] w Q) :
    px_Call E (d + 2) 0 0 mX10_peace [.ref 61, .int x1, .int x2] w Q :=
  px_enter (k := 3) (by decide) (Nat.le_of_ble_eq_true rfl) rfl (px_forget (bX10_peace_0 hw k1 k2 k3) ⟨Or.inr rfl, Or.inr rfl, Or.inr rfl, Or.inl rfl, Or.inl rfl, Or.inl rfl, trivial⟩)
theorem bX10_peace_19 {E : px_E} {d : Nat} {w : pw_W} {Q : Option Value → pw_W → Prop} {t : ct_T} (hw : w.1 = cs t)  
    (k1 : Q (some (.int (-1))) w) :
    px_W E mX10_peace (d + 2) 0 0 19 [.null, .null, .null, .null, .null, .null] [] w Q := by
  refine px_iconst dX10_peace_19 ic_m1 ?_
  exact px_ireturn dX10_peace_20 rfl rfl k1
theorem bX10_peace_21 {E : px_E} {d : Nat} {w : pw_W} {Q : Option Value → pw_W → Prop} {t : ct_T} (hw : w.1 = cs t) {x1 x2 : Int32}  
    (k1 : px_W E mX10_peace (d + 2) 0 0 46 [.ref 61, .int x1, .int x2, .int (((js_shl 1 (pw_I w 61 52)) - 1) &&& ((pw_I w 89 12) ^^^ (-1))), .int (-1), .int 0] [] w Q) :
    px_W E mX10_peace (d + 2) 0 0 21 [.ref 61, .int x1, .int x2, .null, .null, .null] [] w Q := by
  refine px_iconst dX10_peace_21 ic_1 ?_
  refine px_aload_n dX10_peace_22 rfl rfl ?_
  refine px_getI dX10_peace_23 fr_10_407 rfl (px_sh1 hw sh_61) ?_
  refine px_ishl dX10_peace_26 ?_
  refine px_iconst dX10_peace_27 ic_1 ?_
  refine px_isub dX10_peace_28 ?_
  refine px_aload_n dX10_peace_29 rfl rfl ?_
  refine px_getR (v := 89) dX10_peace_30 fr_10_99 rfl (px_sh1 hw sh_61) (px_rf hw rf_61_60) (by decide) ?_
  refine px_bipush dX10_peace_33 bp_12 ?_
  refine px_iald dX10_peace_35 (px_sh2 hw sh_89) (by decide) 12 rfl (by decide) ?_
  refine px_iconst dX10_peace_36 ic_m1 ?_
  refine px_ixor dX10_peace_37 ?_
  refine px_iand dX10_peace_38 ?_
  refine px_istore_n (ls' := [.ref 61, .int x1, .int x2, .int (((js_shl 1 (pw_I w 61 52)) - 1) &&& ((pw_I w 89 12) ^^^ (-1))), .null, .null]) dX10_peace_39 rfl ⟨by decide, rfl⟩ rfl ?_
  refine px_iconst dX10_peace_40 ic_m1 ?_
  refine px_istore (ls' := [.ref 61, .int x1, .int x2, .int (((js_shl 1 (pw_I w 61 52)) - 1) &&& ((pw_I w 89 12) ^^^ (-1))), .int (-1), .null]) dX10_peace_41 ⟨by decide, rfl⟩ rfl ?_
  refine px_iconst dX10_peace_43 ic_0 ?_
  refine px_istore (ls' := [.ref 61, .int x1, .int x2, .int (((js_shl 1 (pw_I w 61 52)) - 1) &&& ((pw_I w 89 12) ^^^ (-1))), .int (-1), .int 0]) dX10_peace_44 ⟨by decide, rfl⟩ rfl ?_
  exact k1
theorem bX10_peace_46 {E : px_E} {d : Nat} {w : pw_W} {Q : Option Value → pw_W → Prop} {t : ct_T} (hw : w.1 = cs t) {x1 x2 x3 x4 x5 : Int32}  
    (k1 : x3 < x5 → 0 ≤ x4 → ¬ x2 = 0 → px_W E mX10_peace (d + 2) 0 0 147 [.null, .null, .null, .null, .null, .null] [.int x4] w Q)
    (k2 : x3 < x5 → 0 ≤ x4 → x2 = 0 → px_Call E (d + 1) 0 0 mX10_members [.int x4] w (fun v w' => px_W E mX10_peace (d + 2) 0 0 142 [.null, .null, .null, .null, .null, .null] (v.toList ++ []) w' Q))
    (k3 : x3 < x5 → ¬ 0 ≤ x4 → px_W E mX10_peace (d + 2) 0 0 147 [.null, .null, .null, .null, .null, .null] [.int (-1)] w Q)
    (k4 : ¬ x3 < x5 → ¬ (x5 &&& (x3 ^^^ (-1))) = 0 → px_W E mX10_peace (d + 2) 0 0 118 [.ref 61, .int x1, .int x2, .int x3, .int x4, .int x5] [] w Q)
    (k5 : ¬ x3 < x5 → (x5 &&& (x3 ^^^ (-1))) = 0 → x4 < 0 → px_W E mX10_peace (d + 2) 0 0 82 [.ref 61, .int x1, .int x2, .int x3, .int x4, .int x5] [] w Q)
    (k6 : ¬ x3 < x5 → (x5 &&& (x3 ^^^ (-1))) = 0 → ¬ x4 < 0 → px_Call E (d + 1) 0 0 mX10_members [.int x5] w (fun v w' => px_W E mX10_peace (d + 2) 0 0 71 [.ref 61, .int x1, .int x2, .int x3, .int x4, .int x5] (v.toList ++ []) w' Q)) :
    px_W E mX10_peace (d + 2) 0 0 46 [.ref 61, .int x1, .int x2, .int x3, .int x4, .int x5] [] w Q := by
  refine px_iload dX10_peace_46 rfl ?_
  refine px_iload_n dX10_peace_48 rfl rfl ?_
  refine px_icmp_gt (tgt := 124) dX10_peace_49 (by decide) (fun h1 => ?_) (fun h1 => ?_)
  ·
    refine px_iload dX10_peace_124 rfl ?_
    refine px_if_ge (tgt := 133) dX10_peace_126 (by decide) (fun h2 => ?_) (fun h2 => ?_)
    ·
      refine px_iload_n dX10_peace_133 rfl rfl ?_
      refine px_if_ne (tgt := 145) dX10_peace_134 (by decide) (fun h3 => ?_) (fun h3 => ?_)
      ·
        refine px_iload dX10_peace_145 rfl ?_
        exact px_forget (k1 h1 h2 h3) ⟨Or.inl rfl, Or.inl rfl, Or.inl rfl, Or.inl rfl, Or.inl rfl, Or.inl rfl, trivial⟩
      ·
        refine px_iload dX10_peace_137 rfl ?_
        refine px_forget (ls' := [.null, .null, .null, .null, .null, .null]) ?_ ⟨Or.inl rfl, Or.inl rfl, Or.inl rfl, Or.inl rfl, Or.inl rfl, Or.inl rfl, trivial⟩
        exact px_callS (As := [.int x4]) (st := []) (rc := 0) (rs := 0) (mc := 0) (ms := 0) dX10_peace_139 lk_10_510 rfl rfl (Nat.le_of_ble_eq_true rfl) (k2 h1 h2 h3)
    ·
      refine px_iconst dX10_peace_129 ic_m1 ?_
      refine px_goto (tgt := 147) dX10_peace_130 (by decide) ?_
      exact px_forget (k3 h1 h2) ⟨Or.inl rfl, Or.inl rfl, Or.inl rfl, Or.inl rfl, Or.inl rfl, Or.inl rfl, trivial⟩
  ·
    refine px_iload dX10_peace_52 rfl ?_
    refine px_iload_n dX10_peace_54 rfl rfl ?_
    refine px_iconst dX10_peace_55 ic_m1 ?_
    refine px_ixor dX10_peace_56 ?_
    refine px_iand dX10_peace_57 ?_
    refine px_if_ne (tgt := 118) dX10_peace_58 (by decide) (fun h4 => ?_) (fun h4 => ?_)
    ·
      exact (k4 h1 h4)
    ·
      refine px_iload dX10_peace_61 rfl ?_
      refine px_if_lt (tgt := 82) dX10_peace_63 (by decide) (fun h5 => ?_) (fun h5 => ?_)
      ·
        exact (k5 h1 h4 h5)
      ·
        refine px_iload dX10_peace_66 rfl ?_
        exact px_callS (As := [.int x5]) (st := []) (rc := 0) (rs := 0) (mc := 0) (ms := 0) dX10_peace_68 lk_10_510 rfl rfl (Nat.le_of_ble_eq_true rfl) (k6 h1 h4 h5)
theorem bX10_peace_71 {E : px_E} {d : Nat} {w : pw_W} {Q : Option Value → pw_W → Prop} {t : ct_T} (hw : w.1 = cs t) {x1 x2 x3 x4 x5 y0 : Int32}  
    (k1 : px_Call E (d + 1) 0 0 mX10_members [.int x4] w (fun v w' => px_W E mX10_peace (d + 2) 0 0 76 [.ref 61, .int x1, .int x2, .int x3, .int x4, .int x5] (v.toList ++ [.int y0]) w' Q)) :
    px_W E mX10_peace (d + 2) 0 0 71 [.ref 61, .int x1, .int x2, .int x3, .int x4, .int x5] [.int y0] w Q := by
  refine px_iload dX10_peace_71 rfl ?_
  exact px_callS (As := [.int x4]) (st := [.int y0]) (rc := 0) (rs := 0) (mc := 0) (ms := 0) dX10_peace_73 lk_10_510 rfl rfl (Nat.le_of_ble_eq_true rfl) k1
theorem bX10_peace_76 {E : px_E} {d : Nat} {w : pw_W} {Q : Option Value → pw_W → Prop} {t : ct_T} (hw : w.1 = cs t) {x1 x2 x3 x4 x5 y0 y1 : Int32}  
    (k1 : y0 < y1 → px_W E mX10_peace (d + 2) 0 0 82 [.ref 61, .int x1, .int x2, .int x3, .int x4, .int x5] [] w Q)
    (k2 : ¬ y0 < y1 → px_W E mX10_peace (d + 2) 0 0 118 [.ref 61, .int x1, .int x2, .int x3, .int x4, .int x5] [] w Q) :
    px_W E mX10_peace (d + 2) 0 0 76 [.ref 61, .int x1, .int x2, .int x3, .int x4, .int x5] [.int y1, .int y0] w Q := by
  refine px_icmp_lt (tgt := 82) dX10_peace_76 (by decide) (fun h1 => ?_) (fun h1 => ?_)
  ·
    exact (k1 h1)
  ·
    refine px_goto (tgt := 118) dX10_peace_79 (by decide) ?_
    exact (k2 h1)
theorem bX10_peace_82 {E : px_E} {d : Nat} {w : pw_W} {Q : Option Value → pw_W → Prop} {t : ct_T} (hw : w.1 = cs t) {x1 x2 x3 x4 x5 : Int32}  
    (k1 : px_Call E (d + 1) 0 0 mX10_fill [.ref 61] w (fun v w' => px_W E mX10_peace (d + 2) 0 0 86 [.ref 61, .int x1, .int x2, .int x3, .int x4, .int x5] (v.toList ++ []) w' Q)) :
    px_W E mX10_peace (d + 2) 0 0 82 [.ref 61, .int x1, .int x2, .int x3, .int x4, .int x5] [] w Q := by
  refine px_aload_n dX10_peace_82 rfl rfl ?_
  exact px_callV (As := []) (st := []) (rc := 0) (rs := 0) (mc := 0) (ms := 0) dX10_peace_83 lk_10_480 (px_sh1 hw sh_61) rfl rfl (Nat.le_of_ble_eq_true rfl) k1
theorem bX10_peace_86 {E : px_E} {d : Nat} {w : pw_W} {Q : Option Value → pw_W → Prop} {t : ct_T} (hw : w.1 = cs t) {x1 x2 x3 x4 x5 : Int32}  
    (k1 : px_Call E (d + 1) 0 0 mX10_isPeace [.ref 61, .int ((js_shl 1 (pw_I w 61 51)) - 1), .int x1] (pw_sI w 90 12 ((pw_I w 90 12) ||| x5)) (fun v w' => px_W E mX10_peace (d + 2) 0 0 111 [.ref 61, .int x1, .int x2, .int x3, .int x4, .int x5] (v.toList ++ []) w' Q)) :
    px_W E mX10_peace (d + 2) 0 0 86 [.ref 61, .int x1, .int x2, .int x3, .int x4, .int x5] [] w Q := by
  refine px_aload_n dX10_peace_86 rfl rfl ?_
  refine px_getR (v := 90) dX10_peace_87 fr_10_102 rfl (px_sh1 hw sh_61) (px_rf hw rf_61_61) (by decide) ?_
  refine px_bipush dX10_peace_90 bp_12 ?_
  refine px_dup2 dX10_peace_92 rfl rfl ?_
  refine px_iald dX10_peace_93 (px_sh2 hw sh_90) (by decide) 12 rfl (by decide) ?_
  refine px_iload dX10_peace_94 rfl ?_
  refine px_ior dX10_peace_96 ?_
  refine px_iast dX10_peace_97 (px_sh2 hw sh_90) (by decide) 12 rfl (by decide) (by omega) ?_
  refine px_aload_n dX10_peace_98 rfl rfl ?_
  refine px_iconst dX10_peace_99 ic_1 ?_
  refine px_aload_n dX10_peace_100 rfl rfl ?_
  refine px_getIv (v := (pw_I w 61 51)) dX10_peace_101 fr_10_404 rfl (px_sh1 (hI hw) sh_61) rfl ?_
  refine px_ishl dX10_peace_104 ?_
  refine px_iconst dX10_peace_105 ic_1 ?_
  refine px_isub dX10_peace_106 ?_
  refine px_iload_n dX10_peace_107 rfl rfl ?_
  exact px_callV (As := [.int ((js_shl 1 (pw_I w 61 51)) - 1), .int x1]) (st := []) (rc := 0) (rs := 0) (mc := 0) (ms := 0) dX10_peace_108 lk_10_513 (px_sh1 (hI hw) sh_61) rfl rfl (Nat.le_of_ble_eq_true rfl) k1
theorem bX10_peace_111 {E : px_E} {d : Nat} {w : pw_W} {Q : Option Value → pw_W → Prop} {t : ct_T} (hw : w.1 = cs t) {x1 x2 x3 x4 x5 y0 : Int32}  
    (k1 : y0 = 0 → px_W E mX10_peace (d + 2) 0 0 118 [.ref 61, .int x1, .int x2, .int x3, .int x4, .int x5] [] w Q)
    (k2 : ¬ y0 = 0 → px_W E mX10_peace (d + 2) 0 0 118 [.ref 61, .int x1, .int x2, .int x3, .int x5, .int x5] [] w Q) :
    px_W E mX10_peace (d + 2) 0 0 111 [.ref 61, .int x1, .int x2, .int x3, .int x4, .int x5] [.int y0] w Q := by
  refine px_if_eq (tgt := 118) dX10_peace_111 (by decide) (fun h1 => ?_) (fun h1 => ?_)
  ·
    exact (k1 h1)
  ·
    refine px_iload dX10_peace_114 rfl ?_
    refine px_istore (ls' := [.ref 61, .int x1, .int x2, .int x3, .int x5, .int x5]) dX10_peace_116 ⟨by decide, rfl⟩ rfl ?_
    exact (k2 h1)
theorem bX10_peace_118 {E : px_E} {d : Nat} {w : pw_W} {Q : Option Value → pw_W → Prop} {t : ct_T} (hw : w.1 = cs t) {x1 x2 x3 x4 x5 : Int32}  
    (k1 : px_W E mX10_peace (d + 2) 0 0 46 [.ref 61, .int x1, .int x2, .int x3, .int x4, .int (x5 + 1)] [] w Q) :
    px_W E mX10_peace (d + 2) 0 0 118 [.ref 61, .int x1, .int x2, .int x3, .int x4, .int x5] [] w Q := by
  refine px_iinc (ls' := [.ref 61, .int x1, .int x2, .int x3, .int x4, .int (x5 + 1)]) dX10_peace_118 ⟨by decide, rfl⟩ rfl rfl rfl ?_
  refine px_goto (tgt := 46) dX10_peace_121 (by decide) ?_
  exact k1
theorem bX10_peace_142 {E : px_E} {d : Nat} {w : pw_W} {Q : Option Value → pw_W → Prop} {t : ct_T} (hw : w.1 = cs t) {y0 : Int32}  
    (k1 : px_W E mX10_peace (d + 2) 0 0 147 [.null, .null, .null, .null, .null, .null] [.int y0] w Q) :
    px_W E mX10_peace (d + 2) 0 0 142 [.null, .null, .null, .null, .null, .null] [.int y0] w Q := by
  refine px_goto (tgt := 147) dX10_peace_142 (by decide) ?_
  exact k1
theorem bX10_peace_147 {E : px_E} {d : Nat} {w : pw_W} {Q : Option Value → pw_W → Prop} {t : ct_T} (hw : w.1 = cs t) {y0 : Int32}  
    (k1 : Q (some (.int y0)) w) :
    px_W E mX10_peace (d + 2) 0 0 147 [.null, .null, .null, .null, .null, .null] [.int y0] w Q := by
  exact px_ireturn dX10_peace_147 rfl rfl k1
theorem dX10_nextRow_0 : decode mX10_nextRow.2.1 0 = .ok (.aload_n 0, 1) := by decide +kernel
theorem dX10_nextRow_1 : decode mX10_nextRow.2.1 1 = .ok (.getfield 517, 3) := by decide +kernel
theorem dX10_nextRow_4 : decode mX10_nextRow.2.1 4 = .ok (.iconst 2, 1) := by decide +kernel
theorem dX10_nextRow_5 : decode mX10_nextRow.2.1 5 = .ok (.isub, 1) := by decide +kernel
theorem dX10_nextRow_6 : decode mX10_nextRow.2.1 6 = .ok (.istore_n 1, 1) := by decide +kernel
theorem dX10_nextRow_7 : decode mX10_nextRow.2.1 7 = .ok (.iload_n 1, 1) := by decide +kernel
theorem dX10_nextRow_8 : decode mX10_nextRow.2.1 8 = .ok (.ifCond .lt 26, 3) := by decide +kernel
theorem dX10_nextRow_11 : decode mX10_nextRow.2.1 11 = .ok (.aload_n 0, 1) := by decide +kernel
theorem dX10_nextRow_12 : decode mX10_nextRow.2.1 12 = .ok (.getfield 111, 3) := by decide +kernel
theorem dX10_nextRow_15 : decode mX10_nextRow.2.1 15 = .ok (.iload_n 1, 1) := by decide +kernel
theorem dX10_nextRow_16 : decode mX10_nextRow.2.1 16 = .ok (.iaload, 1) := by decide +kernel
theorem dX10_nextRow_17 : decode mX10_nextRow.2.1 17 = .ok (.aload_n 0, 1) := by decide +kernel
theorem dX10_nextRow_18 : decode mX10_nextRow.2.1 18 = .ok (.getfield 111, 3) := by decide +kernel
theorem dX10_nextRow_21 : decode mX10_nextRow.2.1 21 = .ok (.iload_n 1, 1) := by decide +kernel
theorem dX10_nextRow_22 : decode mX10_nextRow.2.1 22 = .ok (.iconst 1, 1) := by decide +kernel
theorem dX10_nextRow_23 : decode mX10_nextRow.2.1 23 = .ok (.iadd, 1) := by decide +kernel
theorem dX10_nextRow_24 : decode mX10_nextRow.2.1 24 = .ok (.iaload, 1) := by decide +kernel
theorem dX10_nextRow_25 : decode mX10_nextRow.2.1 25 = .ok (.if_icmp .le 9, 3) := by decide +kernel
theorem dX10_nextRow_28 : decode mX10_nextRow.2.1 28 = .ok (.iinc 1 (-1), 3) := by decide +kernel
theorem dX10_nextRow_31 : decode mX10_nextRow.2.1 31 = .ok (.goto (-24), 3) := by decide +kernel
theorem dX10_nextRow_34 : decode mX10_nextRow.2.1 34 = .ok (.iload_n 1, 1) := by decide +kernel
theorem dX10_nextRow_35 : decode mX10_nextRow.2.1 35 = .ok (.ifCond .ge 5, 3) := by decide +kernel
theorem dX10_nextRow_38 : decode mX10_nextRow.2.1 38 = .ok (.iconst 0, 1) := by decide +kernel
theorem dX10_nextRow_39 : decode mX10_nextRow.2.1 39 = .ok (.ireturn, 1) := by decide +kernel
theorem dX10_nextRow_40 : decode mX10_nextRow.2.1 40 = .ok (.aload_n 0, 1) := by decide +kernel
theorem dX10_nextRow_41 : decode mX10_nextRow.2.1 41 = .ok (.getfield 517, 3) := by decide +kernel
theorem dX10_nextRow_44 : decode mX10_nextRow.2.1 44 = .ok (.iconst 1, 1) := by decide +kernel
theorem dX10_nextRow_45 : decode mX10_nextRow.2.1 45 = .ok (.isub, 1) := by decide +kernel
theorem dX10_nextRow_46 : decode mX10_nextRow.2.1 46 = .ok (.istore_n 2, 1) := by decide +kernel
theorem dX10_nextRow_47 : decode mX10_nextRow.2.1 47 = .ok (.aload_n 0, 1) := by decide +kernel
theorem dX10_nextRow_48 : decode mX10_nextRow.2.1 48 = .ok (.getfield 111, 3) := by decide +kernel
theorem dX10_nextRow_51 : decode mX10_nextRow.2.1 51 = .ok (.iload_n 2, 1) := by decide +kernel
theorem dX10_nextRow_52 : decode mX10_nextRow.2.1 52 = .ok (.iaload, 1) := by decide +kernel
theorem dX10_nextRow_53 : decode mX10_nextRow.2.1 53 = .ok (.aload_n 0, 1) := by decide +kernel
theorem dX10_nextRow_54 : decode mX10_nextRow.2.1 54 = .ok (.getfield 111, 3) := by decide +kernel
theorem dX10_nextRow_57 : decode mX10_nextRow.2.1 57 = .ok (.iload_n 1, 1) := by decide +kernel
theorem dX10_nextRow_58 : decode mX10_nextRow.2.1 58 = .ok (.iaload, 1) := by decide +kernel
theorem dX10_nextRow_59 : decode mX10_nextRow.2.1 59 = .ok (.if_icmp .ge 9, 3) := by decide +kernel
theorem dX10_nextRow_62 : decode mX10_nextRow.2.1 62 = .ok (.iinc 2 (-1), 3) := by decide +kernel
theorem dX10_nextRow_65 : decode mX10_nextRow.2.1 65 = .ok (.goto (-18), 3) := by decide +kernel
theorem dX10_nextRow_68 : decode mX10_nextRow.2.1 68 = .ok (.aload_n 0, 1) := by decide +kernel
theorem dX10_nextRow_69 : decode mX10_nextRow.2.1 69 = .ok (.iload_n 1, 1) := by decide +kernel
theorem dX10_nextRow_70 : decode mX10_nextRow.2.1 70 = .ok (.iload_n 2, 1) := by decide +kernel
theorem dX10_nextRow_71 : decode mX10_nextRow.2.1 71 = .ok (.invokevirtual 520, 3) := by decide +kernel
theorem dX10_nextRow_74 : decode mX10_nextRow.2.1 74 = .ok (.iload_n 1, 1) := by decide +kernel
theorem dX10_nextRow_75 : decode mX10_nextRow.2.1 75 = .ok (.iconst 1, 1) := by decide +kernel
theorem dX10_nextRow_76 : decode mX10_nextRow.2.1 76 = .ok (.iadd, 1) := by decide +kernel
theorem dX10_nextRow_77 : decode mX10_nextRow.2.1 77 = .ok (.istore_n 3, 1) := by decide +kernel
theorem dX10_nextRow_78 : decode mX10_nextRow.2.1 78 = .ok (.aload_n 0, 1) := by decide +kernel
theorem dX10_nextRow_79 : decode mX10_nextRow.2.1 79 = .ok (.getfield 517, 3) := by decide +kernel
theorem dX10_nextRow_82 : decode mX10_nextRow.2.1 82 = .ok (.iconst 1, 1) := by decide +kernel
theorem dX10_nextRow_83 : decode mX10_nextRow.2.1 83 = .ok (.isub, 1) := by decide +kernel
theorem dX10_nextRow_84 : decode mX10_nextRow.2.1 84 = .ok (.istore 4, 2) := by decide +kernel
theorem dX10_nextRow_86 : decode mX10_nextRow.2.1 86 = .ok (.iload_n 3, 1) := by decide +kernel
theorem dX10_nextRow_87 : decode mX10_nextRow.2.1 87 = .ok (.iload 4, 2) := by decide +kernel
theorem dX10_nextRow_89 : decode mX10_nextRow.2.1 89 = .ok (.if_icmp .ge 19, 3) := by decide +kernel
theorem dX10_nextRow_92 : decode mX10_nextRow.2.1 92 = .ok (.aload_n 0, 1) := by decide +kernel
theorem dX10_nextRow_93 : decode mX10_nextRow.2.1 93 = .ok (.iload_n 3, 1) := by decide +kernel
theorem dX10_nextRow_94 : decode mX10_nextRow.2.1 94 = .ok (.iload 4, 2) := by decide +kernel
theorem dX10_nextRow_96 : decode mX10_nextRow.2.1 96 = .ok (.invokevirtual 520, 3) := by decide +kernel
theorem dX10_nextRow_99 : decode mX10_nextRow.2.1 99 = .ok (.iinc 3 1, 3) := by decide +kernel
theorem dX10_nextRow_102 : decode mX10_nextRow.2.1 102 = .ok (.iinc 4 (-1), 3) := by decide +kernel
theorem dX10_nextRow_105 : decode mX10_nextRow.2.1 105 = .ok (.goto (-19), 3) := by decide +kernel
theorem dX10_nextRow_108 : decode mX10_nextRow.2.1 108 = .ok (.iconst 1, 1) := by decide +kernel
theorem dX10_nextRow_109 : decode mX10_nextRow.2.1 109 = .ok (.ireturn, 1) := by decide +kernel
theorem bX10_nextRow_0 {E : px_E} {d : Nat} {w : pw_W} {Q : Option Value → pw_W → Prop} {t : ct_T} (hw : w.1 = cs t)  
    (k1 : px_W E mX10_nextRow (d + 1) 0 0 7 [.ref 61, .int ((pw_I w 61 69) - 2), .null, .null, .null] [] w Q) :
    px_W E mX10_nextRow (d + 1) 0 0 0 [.ref 61, .null, .null, .null, .null] [] w Q := by
  refine px_aload_n dX10_nextRow_0 rfl rfl ?_
  refine px_getI dX10_nextRow_1 fr_10_517 rfl (px_sh1 hw sh_61) ?_
  refine px_iconst dX10_nextRow_4 ic_2 ?_
  refine px_isub dX10_nextRow_5 ?_
  refine px_istore_n (ls' := [.ref 61, .int ((pw_I w 61 69) - 2), .null, .null, .null]) dX10_nextRow_6 rfl ⟨by decide, rfl⟩ rfl ?_
  exact k1
theorem eX10_nextRow {E : px_E} {d : Nat} {w : pw_W} {Q : Option Value → pw_W → Prop} {t : ct_T} (hw : w.1 = cs t)  
    (k1 : px_W E mX10_nextRow (d + 1) 0 0 7 [.ref 61, .int ((pw_I w 61 69) - 2), .null, .null, .null] [] w Q) :
    px_Call E (d + 1) 0 0 mX10_nextRow [.ref 61] w Q :=
  px_enter (k := 4) (by decide) (Nat.le_of_ble_eq_true rfl) rfl (px_forget (bX10_nextRow_0 hw k1) ⟨Or.inr rfl, Or.inl rfl, Or.inl rfl, Or.inl rfl, Or.inl rfl, trivial⟩)
theorem bX10_nextRow_7 {E : px_E} {d : Nat} {w : pw_W} {Q : Option Value → pw_W → Prop} {t : ct_T} (hw : w.1 = cs t) {x1 : Int32}  
    (k1 : x1 < 0 → px_W E mX10_nextRow (d + 1) 0 0 34 [.ref 61, .int x1, .null, .null, .null] [] w Q)
    (k2 : ¬ x1 < 0 → px_W E mX10_nextRow (d + 1) 0 0 11 [.ref 61, .int x1, .null, .null, .null] [] w Q) :
    px_W E mX10_nextRow (d + 1) 0 0 7 [.ref 61, .int x1, .null, .null, .null] [] w Q := by
  refine px_iload_n dX10_nextRow_7 rfl rfl ?_
  refine px_if_lt (tgt := 34) dX10_nextRow_8 (by decide) (fun h1 => ?_) (fun h1 => ?_)
  ·
    exact (k1 h1)
  ·
    exact (k2 h1)
theorem bX10_nextRow_11 {E : px_E} {d : Nat} {w : pw_W} {Q : Option Value → pw_W → Prop} {t : ct_T} (hw : w.1 = cs t) {x1 : Int32}  (j1 : Nat) (hj1 : x1 = nI j1) (hl1 : j1 < 6) (j2 : Nat) (hj2 : (x1 + 1) = nI j2) (hl2 : j2 < 6)
    (k1 : (pw_I w 93 j1) ≤ (pw_I w 93 j2) → px_W E mX10_nextRow (d + 1) 0 0 34 [.ref 61, .int x1, .null, .null, .null] [] w Q)
    (k2 : ¬ (pw_I w 93 j1) ≤ (pw_I w 93 j2) → px_W E mX10_nextRow (d + 1) 0 0 7 [.ref 61, .int (x1 + (-1)), .null, .null, .null] [] w Q) :
    px_W E mX10_nextRow (d + 1) 0 0 11 [.ref 61, .int x1, .null, .null, .null] [] w Q := by
  refine px_aload_n dX10_nextRow_11 rfl rfl ?_
  refine px_getR (v := 93) dX10_nextRow_12 fr_10_111 rfl (px_sh1 hw sh_61) (px_rf hw rf_61_66) (by decide) ?_
  refine px_iload_n dX10_nextRow_15 rfl rfl ?_
  refine px_iald dX10_nextRow_16 (px_sh2 hw sh_93) (by decide) j1 hj1 hl1 ?_
  refine px_aload_n dX10_nextRow_17 rfl rfl ?_
  refine px_getR (v := 93) dX10_nextRow_18 fr_10_111 rfl (px_sh1 hw sh_61) (px_rf hw rf_61_66) (by decide) ?_
  refine px_iload_n dX10_nextRow_21 rfl rfl ?_
  refine px_iconst dX10_nextRow_22 ic_1 ?_
  refine px_iadd dX10_nextRow_23 ?_
  refine px_iald dX10_nextRow_24 (px_sh2 hw sh_93) (by decide) j2 hj2 hl2 ?_
  refine px_icmp_le (tgt := 34) dX10_nextRow_25 (by decide) (fun h1 => ?_) (fun h1 => ?_)
  ·
    exact (k1 h1)
  ·
    refine px_iinc (ls' := [.ref 61, .int (x1 + (-1)), .null, .null, .null]) dX10_nextRow_28 ⟨by decide, rfl⟩ rfl rfl rfl ?_
    refine px_goto (tgt := 7) dX10_nextRow_31 (by decide) ?_
    exact (k2 h1)
theorem bX10_nextRow_34 {E : px_E} {d : Nat} {w : pw_W} {Q : Option Value → pw_W → Prop} {t : ct_T} (hw : w.1 = cs t) {x1 : Int32}  
    (k1 : 0 ≤ x1 → px_W E mX10_nextRow (d + 1) 0 0 47 [.ref 61, .int x1, .int ((pw_I w 61 69) - 1), .null, .null] [] w Q)
    (k2 : ¬ 0 ≤ x1 → Q (some (.int 0)) w) :
    px_W E mX10_nextRow (d + 1) 0 0 34 [.ref 61, .int x1, .null, .null, .null] [] w Q := by
  refine px_iload_n dX10_nextRow_34 rfl rfl ?_
  refine px_if_ge (tgt := 40) dX10_nextRow_35 (by decide) (fun h1 => ?_) (fun h1 => ?_)
  ·
    refine px_aload_n dX10_nextRow_40 rfl rfl ?_
    refine px_getI dX10_nextRow_41 fr_10_517 rfl (px_sh1 hw sh_61) ?_
    refine px_iconst dX10_nextRow_44 ic_1 ?_
    refine px_isub dX10_nextRow_45 ?_
    refine px_istore_n (ls' := [.ref 61, .int x1, .int ((pw_I w 61 69) - 1), .null, .null]) dX10_nextRow_46 rfl ⟨by decide, rfl⟩ rfl ?_
    exact (k1 h1)
  ·
    refine px_iconst dX10_nextRow_38 ic_0 ?_
    exact px_ireturn dX10_nextRow_39 rfl (by decide) (k2 h1)
theorem bX10_nextRow_47 {E : px_E} {d : Nat} {w : pw_W} {Q : Option Value → pw_W → Prop} {t : ct_T} (hw : w.1 = cs t) {x1 x2 : Int32}  (j1 : Nat) (hj1 : x2 = nI j1) (hl1 : j1 < 6) (j2 : Nat) (hj2 : x1 = nI j2) (hl2 : j2 < 6)
    (k1 : (pw_I w 93 j2) ≤ (pw_I w 93 j1) → px_Call E d 0 0 mX10_swap [.ref 61, .int x1, .int x2] w (fun v w' => px_W E mX10_nextRow (d + 1) 0 0 74 [.ref 61, .int x1, .null, .null, .null] (v.toList ++ []) w' Q))
    (k2 : ¬ (pw_I w 93 j2) ≤ (pw_I w 93 j1) → px_W E mX10_nextRow (d + 1) 0 0 47 [.ref 61, .int x1, .int (x2 + (-1)), .null, .null] [] w Q) :
    px_W E mX10_nextRow (d + 1) 0 0 47 [.ref 61, .int x1, .int x2, .null, .null] [] w Q := by
  refine px_aload_n dX10_nextRow_47 rfl rfl ?_
  refine px_getR (v := 93) dX10_nextRow_48 fr_10_111 rfl (px_sh1 hw sh_61) (px_rf hw rf_61_66) (by decide) ?_
  refine px_iload_n dX10_nextRow_51 rfl rfl ?_
  refine px_iald dX10_nextRow_52 (px_sh2 hw sh_93) (by decide) j1 hj1 hl1 ?_
  refine px_aload_n dX10_nextRow_53 rfl rfl ?_
  refine px_getR (v := 93) dX10_nextRow_54 fr_10_111 rfl (px_sh1 hw sh_61) (px_rf hw rf_61_66) (by decide) ?_
  refine px_iload_n dX10_nextRow_57 rfl rfl ?_
  refine px_iald dX10_nextRow_58 (px_sh2 hw sh_93) (by decide) j2 hj2 hl2 ?_
  refine px_icmp_ge (tgt := 68) dX10_nextRow_59 (by decide) (fun h1 => ?_) (fun h1 => ?_)
  ·
    refine px_aload_n dX10_nextRow_68 rfl rfl ?_
    refine px_iload_n dX10_nextRow_69 rfl rfl ?_
    refine px_iload_n dX10_nextRow_70 rfl rfl ?_
    refine px_forget (ls' := [.ref 61, .int x1, .null, .null, .null]) ?_ ⟨Or.inr rfl, Or.inr rfl, Or.inl rfl, Or.inl rfl, Or.inl rfl, trivial⟩
    exact px_callV (As := [.int x1, .int x2]) (st := []) (rc := 0) (rs := 0) (mc := 0) (ms := 0) dX10_nextRow_71 lk_10_520 (px_sh1 hw sh_61) rfl rfl (Nat.le_of_ble_eq_true rfl) (k1 h1)
  ·
    refine px_iinc (ls' := [.ref 61, .int x1, .int (x2 + (-1)), .null, .null]) dX10_nextRow_62 ⟨by decide, rfl⟩ rfl rfl rfl ?_
    refine px_goto (tgt := 47) dX10_nextRow_65 (by decide) ?_
    exact (k2 h1)
theorem bX10_nextRow_74 {E : px_E} {d : Nat} {w : pw_W} {Q : Option Value → pw_W → Prop} {t : ct_T} (hw : w.1 = cs t) {x1 : Int32}  
    (k1 : px_W E mX10_nextRow (d + 1) 0 0 86 [.ref 61, .null, .null, .int (x1 + 1), .int ((pw_I w 61 69) - 1)] [] w Q) :
    px_W E mX10_nextRow (d + 1) 0 0 74 [.ref 61, .int x1, .null, .null, .null] [] w Q := by
  refine px_iload_n dX10_nextRow_74 rfl rfl ?_
  refine px_iconst dX10_nextRow_75 ic_1 ?_
  refine px_iadd dX10_nextRow_76 ?_
  refine px_istore_n (ls' := [.ref 61, .int x1, .null, .int (x1 + 1), .null]) dX10_nextRow_77 rfl ⟨by decide, rfl⟩ rfl ?_
  refine px_aload_n dX10_nextRow_78 rfl rfl ?_
  refine px_getI dX10_nextRow_79 fr_10_517 rfl (px_sh1 hw sh_61) ?_
  refine px_iconst dX10_nextRow_82 ic_1 ?_
  refine px_isub dX10_nextRow_83 ?_
  refine px_istore (ls' := [.ref 61, .int x1, .null, .int (x1 + 1), .int ((pw_I w 61 69) - 1)]) dX10_nextRow_84 ⟨by decide, rfl⟩ rfl ?_
  exact px_forget k1 ⟨Or.inr rfl, Or.inl rfl, Or.inl rfl, Or.inr rfl, Or.inr rfl, trivial⟩
theorem bX10_nextRow_86 {E : px_E} {d : Nat} {w : pw_W} {Q : Option Value → pw_W → Prop} {t : ct_T} (hw : w.1 = cs t) {x3 x4 : Int32}  
    (k1 : x4 ≤ x3 → Q (some (.int 1)) w)
    (k2 : ¬ x4 ≤ x3 → px_Call E d 0 0 mX10_swap [.ref 61, .int x3, .int x4] w (fun v w' => px_W E mX10_nextRow (d + 1) 0 0 99 [.ref 61, .null, .null, .int x3, .int x4] (v.toList ++ []) w' Q)) :
    px_W E mX10_nextRow (d + 1) 0 0 86 [.ref 61, .null, .null, .int x3, .int x4] [] w Q := by
  refine px_iload_n dX10_nextRow_86 rfl rfl ?_
  refine px_iload dX10_nextRow_87 rfl ?_
  refine px_icmp_ge (tgt := 108) dX10_nextRow_89 (by decide) (fun h1 => ?_) (fun h1 => ?_)
  ·
    refine px_iconst dX10_nextRow_108 ic_1 ?_
    exact px_ireturn dX10_nextRow_109 rfl (by decide) (k1 h1)
  ·
    refine px_aload_n dX10_nextRow_92 rfl rfl ?_
    refine px_iload_n dX10_nextRow_93 rfl rfl ?_
    refine px_iload dX10_nextRow_94 rfl ?_
    exact px_callV (As := [.int x3, .int x4]) (st := []) (rc := 0) (rs := 0) (mc := 0) (ms := 0) dX10_nextRow_96 lk_10_520 (px_sh1 hw sh_61) rfl rfl (Nat.le_of_ble_eq_true rfl) (k2 h1)
theorem bX10_nextRow_99 {E : px_E} {d : Nat} {w : pw_W} {Q : Option Value → pw_W → Prop} {t : ct_T} (hw : w.1 = cs t) {x3 x4 : Int32}  
    (k1 : px_W E mX10_nextRow (d + 1) 0 0 86 [.ref 61, .null, .null, .int (x3 + 1), .int (x4 + (-1))] [] w Q) :
    px_W E mX10_nextRow (d + 1) 0 0 99 [.ref 61, .null, .null, .int x3, .int x4] [] w Q := by
  refine px_iinc (ls' := [.ref 61, .null, .null, .int (x3 + 1), .int x4]) dX10_nextRow_99 ⟨by decide, rfl⟩ rfl rfl rfl ?_
  refine px_iinc (ls' := [.ref 61, .null, .null, .int (x3 + 1), .int (x4 + (-1))]) dX10_nextRow_102 ⟨by decide, rfl⟩ rfl rfl rfl ?_
  refine px_goto (tgt := 86) dX10_nextRow_105 (by decide) ?_
  exact k1
theorem dX10_swap_0 : decode mX10_swap.2.1 0 = .ok (.aload_n 0, 1) := by decide +kernel
theorem dX10_swap_1 : decode mX10_swap.2.1 1 = .ok (.getfield 111, 3) := by decide +kernel
theorem dX10_swap_4 : decode mX10_swap.2.1 4 = .ok (.iload_n 1, 1) := by decide +kernel
theorem dX10_swap_5 : decode mX10_swap.2.1 5 = .ok (.iaload, 1) := by decide +kernel
theorem dX10_swap_6 : decode mX10_swap.2.1 6 = .ok (.istore_n 3, 1) := by decide +kernel
theorem dX10_swap_7 : decode mX10_swap.2.1 7 = .ok (.aload_n 0, 1) := by decide +kernel
theorem dX10_swap_8 : decode mX10_swap.2.1 8 = .ok (.getfield 111, 3) := by decide +kernel
theorem dX10_swap_11 : decode mX10_swap.2.1 11 = .ok (.iload_n 1, 1) := by decide +kernel
theorem dX10_swap_12 : decode mX10_swap.2.1 12 = .ok (.aload_n 0, 1) := by decide +kernel
theorem dX10_swap_13 : decode mX10_swap.2.1 13 = .ok (.getfield 111, 3) := by decide +kernel
theorem dX10_swap_16 : decode mX10_swap.2.1 16 = .ok (.iload_n 2, 1) := by decide +kernel
theorem dX10_swap_17 : decode mX10_swap.2.1 17 = .ok (.iaload, 1) := by decide +kernel
theorem dX10_swap_18 : decode mX10_swap.2.1 18 = .ok (.iastore, 1) := by decide +kernel
theorem dX10_swap_19 : decode mX10_swap.2.1 19 = .ok (.aload_n 0, 1) := by decide +kernel
theorem dX10_swap_20 : decode mX10_swap.2.1 20 = .ok (.getfield 111, 3) := by decide +kernel
theorem dX10_swap_23 : decode mX10_swap.2.1 23 = .ok (.iload_n 2, 1) := by decide +kernel
theorem dX10_swap_24 : decode mX10_swap.2.1 24 = .ok (.iload_n 3, 1) := by decide +kernel
theorem dX10_swap_25 : decode mX10_swap.2.1 25 = .ok (.iastore, 1) := by decide +kernel
theorem dX10_swap_26 : decode mX10_swap.2.1 26 = .ok (.return_, 1) := by decide +kernel
theorem bX10_swap_0 {E : px_E} {d : Nat} {w : pw_W} {Q : Option Value → pw_W → Prop} {t : ct_T} (hw : w.1 = cs t) {x1 x2 : Int32}  (j1 : Nat) (hj1 : x1 = nI j1) (hl1 : j1 < 6) (j2 : Nat) (hj2 : x2 = nI j2) (hl2 : j2 < 6)
    (k1 : Q none (pw_sI (pw_sI w 93 j1 (pw_I w 93 j2)) 93 j2 (pw_I w 93 j1))) :
    px_W E mX10_swap (d + 1) 0 0 0 [.ref 61, .int x1, .int x2, .null] [] w Q := by
  refine px_aload_n dX10_swap_0 rfl rfl ?_
  refine px_getR (v := 93) dX10_swap_1 fr_10_111 rfl (px_sh1 hw sh_61) (px_rf hw rf_61_66) (by decide) ?_
  refine px_iload_n dX10_swap_4 rfl rfl ?_
  refine px_iald dX10_swap_5 (px_sh2 hw sh_93) (by decide) j1 hj1 hl1 ?_
  refine px_istore_n (ls' := [.ref 61, .int x1, .int x2, .int (pw_I w 93 j1)]) dX10_swap_6 rfl ⟨by decide, rfl⟩ rfl ?_
  refine px_aload_n dX10_swap_7 rfl rfl ?_
  refine px_getR (v := 93) dX10_swap_8 fr_10_111 rfl (px_sh1 hw sh_61) (px_rf hw rf_61_66) (by decide) ?_
  refine px_iload_n dX10_swap_11 rfl rfl ?_
  refine px_aload_n dX10_swap_12 rfl rfl ?_
  refine px_getR (v := 93) dX10_swap_13 fr_10_111 rfl (px_sh1 hw sh_61) (px_rf hw rf_61_66) (by decide) ?_
  refine px_iload_n dX10_swap_16 rfl rfl ?_
  refine px_iald dX10_swap_17 (px_sh2 hw sh_93) (by decide) j2 hj2 hl2 ?_
  refine px_iast dX10_swap_18 (px_sh2 hw sh_93) (by decide) j1 hj1 hl1 (by omega) ?_
  refine px_aload_n dX10_swap_19 rfl rfl ?_
  refine px_getR (v := 93) dX10_swap_20 fr_10_111 rfl (px_sh1 (hI hw) sh_61) (px_rf (hI hw) rf_61_66) (by decide) ?_
  refine px_iload_n dX10_swap_23 rfl rfl ?_
  refine px_iload_n dX10_swap_24 rfl rfl ?_
  refine px_iast dX10_swap_25 (px_sh2 (hI hw) sh_93) (by decide) j2 hj2 hl2 (by omega) ?_
  exact px_return dX10_swap_26 rfl k1
theorem eX10_swap {E : px_E} {d : Nat} {w : pw_W} {Q : Option Value → pw_W → Prop} {t : ct_T} (hw : w.1 = cs t) {x1 x2 : Int32}  (j1 : Nat) (hj1 : x1 = nI j1) (hl1 : j1 < 6) (j2 : Nat) (hj2 : x2 = nI j2) (hl2 : j2 < 6)
    (k1 : Q none (pw_sI (pw_sI w 93 j1 (pw_I w 93 j2)) 93 j2 (pw_I w 93 j1))) :
    px_Call E (d + 1) 0 0 mX10_swap [.ref 61, .int x1, .int x2] w Q :=
  px_enter (k := 1) (by decide) (Nat.le_of_ble_eq_true rfl) rfl (px_forget (bX10_swap_0 hw j1 hj1 hl1 j2 hj2 hl2 k1) ⟨Or.inr rfl, Or.inr rfl, Or.inr rfl, Or.inl rfl, trivial⟩)
theorem dX10_layRow_0 : decode mX10_layRow.2.1 0 = .ok (.aload_n 0, 1) := by decide +kernel
theorem dX10_layRow_1 : decode mX10_layRow.2.1 1 = .ok (.iconst 0, 1) := by decide +kernel
theorem dX10_layRow_2 : decode mX10_layRow.2.1 2 = .ok (.putfield 517, 3) := by decide +kernel
theorem dX10_layRow_5 : decode mX10_layRow.2.1 5 = .ok (.iconst 0, 1) := by decide +kernel
theorem dX10_layRow_6 : decode mX10_layRow.2.1 6 = .ok (.istore_n 2, 1) := by decide +kernel
theorem dX10_layRow_7 : decode mX10_layRow.2.1 7 = .ok (.iload_n 2, 1) := by decide +kernel
theorem dX10_layRow_8 : decode mX10_layRow.2.1 8 = .ok (.aload_n 0, 1) := by decide +kernel
theorem dX10_layRow_9 : decode mX10_layRow.2.1 9 = .ok (.getfield 404, 3) := by decide +kernel
theorem dX10_layRow_12 : decode mX10_layRow.2.1 12 = .ok (.if_icmp .ge 84, 3) := by decide +kernel
theorem dX10_layRow_15 : decode mX10_layRow.2.1 15 = .ok (.iconst 0, 1) := by decide +kernel
theorem dX10_layRow_16 : decode mX10_layRow.2.1 16 = .ok (.istore_n 3, 1) := by decide +kernel
theorem dX10_layRow_17 : decode mX10_layRow.2.1 17 = .ok (.iconst 0, 1) := by decide +kernel
theorem dX10_layRow_18 : decode mX10_layRow.2.1 18 = .ok (.istore 4, 2) := by decide +kernel
theorem dX10_layRow_20 : decode mX10_layRow.2.1 20 = .ok (.iload 4, 2) := by decide +kernel
theorem dX10_layRow_22 : decode mX10_layRow.2.1 22 = .ok (.aload_n 0, 1) := by decide +kernel
theorem dX10_layRow_23 : decode mX10_layRow.2.1 23 = .ok (.getfield 93, 3) := by decide +kernel
theorem dX10_layRow_26 : decode mX10_layRow.2.1 26 = .ok (.iload_n 1, 1) := by decide +kernel
theorem dX10_layRow_27 : decode mX10_layRow.2.1 27 = .ok (.iaload, 1) := by decide +kernel
theorem dX10_layRow_28 : decode mX10_layRow.2.1 28 = .ok (.if_icmp .ge 35, 3) := by decide +kernel
theorem dX10_layRow_31 : decode mX10_layRow.2.1 31 = .ok (.iload_n 3, 1) := by decide +kernel
theorem dX10_layRow_32 : decode mX10_layRow.2.1 32 = .ok (.ifCond .ne 19, 3) := by decide +kernel
theorem dX10_layRow_35 : decode mX10_layRow.2.1 35 = .ok (.aload_n 0, 1) := by decide +kernel
theorem dX10_layRow_36 : decode mX10_layRow.2.1 36 = .ok (.getfield 90, 3) := by decide +kernel
theorem dX10_layRow_39 : decode mX10_layRow.2.1 39 = .ok (.bipush 6, 2) := by decide +kernel
theorem dX10_layRow_41 : decode mX10_layRow.2.1 41 = .ok (.iload_n 1, 1) := by decide +kernel
theorem dX10_layRow_42 : decode mX10_layRow.2.1 42 = .ok (.imul, 1) := by decide +kernel
theorem dX10_layRow_43 : decode mX10_layRow.2.1 43 = .ok (.iload 4, 2) := by decide +kernel
theorem dX10_layRow_45 : decode mX10_layRow.2.1 45 = .ok (.iadd, 1) := by decide +kernel
theorem dX10_layRow_46 : decode mX10_layRow.2.1 46 = .ok (.iaload, 1) := by decide +kernel
theorem dX10_layRow_47 : decode mX10_layRow.2.1 47 = .ok (.iload_n 2, 1) := by decide +kernel
theorem dX10_layRow_48 : decode mX10_layRow.2.1 48 = .ok (.if_icmp .ne 7, 3) := by decide +kernel
theorem dX10_layRow_51 : decode mX10_layRow.2.1 51 = .ok (.iconst 1, 1) := by decide +kernel
theorem dX10_layRow_52 : decode mX10_layRow.2.1 52 = .ok (.goto 4, 3) := by decide +kernel
theorem dX10_layRow_55 : decode mX10_layRow.2.1 55 = .ok (.iconst 0, 1) := by decide +kernel
theorem dX10_layRow_56 : decode mX10_layRow.2.1 56 = .ok (.istore_n 3, 1) := by decide +kernel
theorem dX10_layRow_57 : decode mX10_layRow.2.1 57 = .ok (.iinc 4 1, 3) := by decide +kernel
theorem dX10_layRow_60 : decode mX10_layRow.2.1 60 = .ok (.goto (-40), 3) := by decide +kernel
theorem dX10_layRow_63 : decode mX10_layRow.2.1 63 = .ok (.iload_n 3, 1) := by decide +kernel
theorem dX10_layRow_64 : decode mX10_layRow.2.1 64 = .ok (.ifCond .ne 6, 3) := by decide +kernel
theorem dX10_layRow_67 : decode mX10_layRow.2.1 67 = .ok (.goto 23, 3) := by decide +kernel
theorem dX10_layRow_70 : decode mX10_layRow.2.1 70 = .ok (.aload_n 0, 1) := by decide +kernel
theorem dX10_layRow_71 : decode mX10_layRow.2.1 71 = .ok (.getfield 111, 3) := by decide +kernel
theorem dX10_layRow_74 : decode mX10_layRow.2.1 74 = .ok (.aload_n 0, 1) := by decide +kernel
theorem dX10_layRow_75 : decode mX10_layRow.2.1 75 = .ok (.getfield 517, 3) := by decide +kernel
theorem dX10_layRow_78 : decode mX10_layRow.2.1 78 = .ok (.iload_n 2, 1) := by decide +kernel
theorem dX10_layRow_79 : decode mX10_layRow.2.1 79 = .ok (.iastore, 1) := by decide +kernel
theorem dX10_layRow_80 : decode mX10_layRow.2.1 80 = .ok (.aload_n 0, 1) := by decide +kernel
theorem dX10_layRow_81 : decode mX10_layRow.2.1 81 = .ok (.dup, 1) := by decide +kernel
theorem dX10_layRow_82 : decode mX10_layRow.2.1 82 = .ok (.getfield 517, 3) := by decide +kernel
theorem dX10_layRow_85 : decode mX10_layRow.2.1 85 = .ok (.iconst 1, 1) := by decide +kernel
theorem dX10_layRow_86 : decode mX10_layRow.2.1 86 = .ok (.iadd, 1) := by decide +kernel
theorem dX10_layRow_87 : decode mX10_layRow.2.1 87 = .ok (.putfield 517, 3) := by decide +kernel
theorem dX10_layRow_90 : decode mX10_layRow.2.1 90 = .ok (.iinc 2 1, 3) := by decide +kernel
theorem dX10_layRow_93 : decode mX10_layRow.2.1 93 = .ok (.goto (-86), 3) := by decide +kernel
theorem dX10_layRow_96 : decode mX10_layRow.2.1 96 = .ok (.return_, 1) := by decide +kernel
theorem bX10_layRow_0 {E : px_E} {d : Nat} {w : pw_W} {Q : Option Value → pw_W → Prop} {t : ct_T} (hw : w.1 = cs t) {x1 : Int32}  
    (k1 : px_W E mX10_layRow (d + 1) 0 0 7 [.ref 61, .int x1, .int 0, .null, .null] [] (pw_sI w 61 69 0) Q) :
    px_W E mX10_layRow (d + 1) 0 0 0 [.ref 61, .int x1, .null, .null, .null] [] w Q := by
  refine px_aload_n dX10_layRow_0 rfl rfl ?_
  refine px_iconst dX10_layRow_1 ic_0 ?_
  refine px_putI dX10_layRow_2 fl_10_517 (Or.inl rfl) rfl (px_sh1 hw sh_61) rfl rfl (by omega) ?_
  refine px_iconst dX10_layRow_5 ic_0 ?_
  refine px_istore_n (ls' := [.ref 61, .int x1, .int 0, .null, .null]) dX10_layRow_6 rfl ⟨by decide, rfl⟩ rfl ?_
  exact k1
theorem eX10_layRow {E : px_E} {d : Nat} {w : pw_W} {Q : Option Value → pw_W → Prop} {t : ct_T} (hw : w.1 = cs t) {x1 : Int32}  
    (k1 : px_W E mX10_layRow (d + 1) 0 0 7 [.ref 61, .int x1, .int 0, .null, .null] [] (pw_sI w 61 69 0) Q) :
    px_Call E (d + 1) 0 0 mX10_layRow [.ref 61, .int x1] w Q :=
  px_enter (k := 3) (by decide) (Nat.le_of_ble_eq_true rfl) rfl (px_forget (bX10_layRow_0 hw k1) ⟨Or.inr rfl, Or.inr rfl, Or.inl rfl, Or.inl rfl, Or.inl rfl, trivial⟩)
theorem bX10_layRow_7 {E : px_E} {d : Nat} {w : pw_W} {Q : Option Value → pw_W → Prop} {t : ct_T} (hw : w.1 = cs t) {x1 x2 : Int32}  
    (k1 : (pw_I w 61 51) ≤ x2 → Q none w)
    (k2 : ¬ (pw_I w 61 51) ≤ x2 → px_W E mX10_layRow (d + 1) 0 0 20 [.ref 61, .int x1, .int x2, .int 0, .int 0] [] w Q) :
    px_W E mX10_layRow (d + 1) 0 0 7 [.ref 61, .int x1, .int x2, .null, .null] [] w Q := by
  refine px_iload_n dX10_layRow_7 rfl rfl ?_
  refine px_aload_n dX10_layRow_8 rfl rfl ?_
  refine px_getI dX10_layRow_9 fr_10_404 rfl (px_sh1 hw sh_61) ?_
  refine px_icmp_ge (tgt := 96) dX10_layRow_12 (by decide) (fun h1 => ?_) (fun h1 => ?_)
  ·
    exact px_return dX10_layRow_96 rfl (k1 h1)
  ·
    refine px_iconst dX10_layRow_15 ic_0 ?_
    refine px_istore_n (ls' := [.ref 61, .int x1, .int x2, .int 0, .null]) dX10_layRow_16 rfl ⟨by decide, rfl⟩ rfl ?_
    refine px_iconst dX10_layRow_17 ic_0 ?_
    refine px_istore (ls' := [.ref 61, .int x1, .int x2, .int 0, .int 0]) dX10_layRow_18 ⟨by decide, rfl⟩ rfl ?_
    exact (k2 h1)
theorem bX10_layRow_20 {E : px_E} {d : Nat} {w : pw_W} {Q : Option Value → pw_W → Prop} {t : ct_T} (hw : w.1 = cs t) {x1 x2 x3 x4 : Int32}  (j1 : Nat) (hj1 : x1 = nI j1) (hl1 : j1 < 2)
    (k1 : (pw_I w 88 j1) ≤ x4 → ¬ x3 = 0 → px_W E mX10_layRow (d + 1) 0 0 70 [.ref 61, .int x1, .int x2, .null, .null] [] w Q)
    (k2 : (pw_I w 88 j1) ≤ x4 → x3 = 0 → px_W E mX10_layRow (d + 1) 0 0 90 [.ref 61, .int x1, .int x2, .null, .null] [] w Q)
    (k3 : ¬ (pw_I w 88 j1) ≤ x4 → ¬ x3 = 0 → px_W E mX10_layRow (d + 1) 0 0 51 [.ref 61, .int x1, .int x2, .null, .int x4] [] w Q)
    (k4 : ¬ (pw_I w 88 j1) ≤ x4 → x3 = 0 → px_W E mX10_layRow (d + 1) 0 0 35 [.ref 61, .int x1, .int x2, .null, .int x4] [] w Q) :
    px_W E mX10_layRow (d + 1) 0 0 20 [.ref 61, .int x1, .int x2, .int x3, .int x4] [] w Q := by
  refine px_iload dX10_layRow_20 rfl ?_
  refine px_aload_n dX10_layRow_22 rfl rfl ?_
  refine px_getR (v := 88) dX10_layRow_23 fr_10_93 rfl (px_sh1 hw sh_61) (px_rf hw rf_61_44) (by decide) ?_
  refine px_iload_n dX10_layRow_26 rfl rfl ?_
  refine px_iald dX10_layRow_27 (px_sh2 hw sh_88) (by decide) j1 hj1 hl1 ?_
  refine px_icmp_ge (tgt := 63) dX10_layRow_28 (by decide) (fun h1 => ?_) (fun h1 => ?_)
  ·
    refine px_iload_n dX10_layRow_63 rfl rfl ?_
    refine px_if_ne (tgt := 70) dX10_layRow_64 (by decide) (fun h2 => ?_) (fun h2 => ?_)
    ·
      exact px_forget (k1 h1 h2) ⟨Or.inr rfl, Or.inr rfl, Or.inr rfl, Or.inl rfl, Or.inl rfl, trivial⟩
    ·
      refine px_goto (tgt := 90) dX10_layRow_67 (by decide) ?_
      exact px_forget (k2 h1 h2) ⟨Or.inr rfl, Or.inr rfl, Or.inr rfl, Or.inl rfl, Or.inl rfl, trivial⟩
  ·
    refine px_iload_n dX10_layRow_31 rfl rfl ?_
    refine px_if_ne (tgt := 51) dX10_layRow_32 (by decide) (fun h3 => ?_) (fun h3 => ?_)
    ·
      exact px_forget (k3 h1 h3) ⟨Or.inr rfl, Or.inr rfl, Or.inr rfl, Or.inl rfl, Or.inr rfl, trivial⟩
    ·
      exact px_forget (k4 h1 h3) ⟨Or.inr rfl, Or.inr rfl, Or.inr rfl, Or.inl rfl, Or.inr rfl, trivial⟩
theorem bX10_layRow_35 {E : px_E} {d : Nat} {w : pw_W} {Q : Option Value → pw_W → Prop} {t : ct_T} (hw : w.1 = cs t) {x1 x2 x4 : Int32}  (j1 : Nat) (hj1 : ((6 * x1) + x4) = nI j1) (hl1 : j1 < 12)
    (k1 : ¬ (pw_I w 87 j1) = x2 → px_W E mX10_layRow (d + 1) 0 0 56 [.ref 61, .int x1, .int x2, .null, .int x4] [.int 0] w Q)
    (k2 : (pw_I w 87 j1) = x2 → px_W E mX10_layRow (d + 1) 0 0 51 [.ref 61, .int x1, .int x2, .null, .int x4] [] w Q) :
    px_W E mX10_layRow (d + 1) 0 0 35 [.ref 61, .int x1, .int x2, .null, .int x4] [] w Q := by
  refine px_aload_n dX10_layRow_35 rfl rfl ?_
  refine px_getR (v := 87) dX10_layRow_36 fr_10_90 rfl (px_sh1 hw sh_61) (px_rf hw rf_61_43) (by decide) ?_
  refine px_bipush dX10_layRow_39 bp_6 ?_
  refine px_iload_n dX10_layRow_41 rfl rfl ?_
  refine px_imul dX10_layRow_42 ?_
  refine px_iload dX10_layRow_43 rfl ?_
  refine px_iadd dX10_layRow_45 ?_
  refine px_iald dX10_layRow_46 (px_sh2 hw sh_87) (by decide) j1 hj1 hl1 ?_
  refine px_iload_n dX10_layRow_47 rfl rfl ?_
  refine px_icmp_ne (tgt := 55) dX10_layRow_48 (by decide) (fun h1 => ?_) (fun h1 => ?_)
  ·
    refine px_iconst dX10_layRow_55 ic_0 ?_
    exact (k1 h1)
  ·
    exact (k2 h1)
theorem bX10_layRow_51 {E : px_E} {d : Nat} {w : pw_W} {Q : Option Value → pw_W → Prop} {t : ct_T} (hw : w.1 = cs t) {x1 x2 x4 : Int32}  
    (k1 : px_W E mX10_layRow (d + 1) 0 0 56 [.ref 61, .int x1, .int x2, .null, .int x4] [.int 1] w Q) :
    px_W E mX10_layRow (d + 1) 0 0 51 [.ref 61, .int x1, .int x2, .null, .int x4] [] w Q := by
  refine px_iconst dX10_layRow_51 ic_1 ?_
  refine px_goto (tgt := 56) dX10_layRow_52 (by decide) ?_
  exact k1
theorem bX10_layRow_56 {E : px_E} {d : Nat} {w : pw_W} {Q : Option Value → pw_W → Prop} {t : ct_T} (hw : w.1 = cs t) {x1 x2 x4 y0 : Int32}  
    (k1 : px_W E mX10_layRow (d + 1) 0 0 20 [.ref 61, .int x1, .int x2, .int y0, .int (x4 + 1)] [] w Q) :
    px_W E mX10_layRow (d + 1) 0 0 56 [.ref 61, .int x1, .int x2, .null, .int x4] [.int y0] w Q := by
  refine px_istore_n (ls' := [.ref 61, .int x1, .int x2, .int y0, .int x4]) dX10_layRow_56 rfl ⟨by decide, rfl⟩ rfl ?_
  refine px_iinc (ls' := [.ref 61, .int x1, .int x2, .int y0, .int (x4 + 1)]) dX10_layRow_57 ⟨by decide, rfl⟩ rfl rfl rfl ?_
  refine px_goto (tgt := 20) dX10_layRow_60 (by decide) ?_
  exact k1
theorem bX10_layRow_70 {E : px_E} {d : Nat} {w : pw_W} {Q : Option Value → pw_W → Prop} {t : ct_T} (hw : w.1 = cs t) {x1 x2 : Int32}  (j1 : Nat) (hj1 : (pw_I w 61 69) = nI j1) (hl1 : j1 < 6)
    (k1 : px_W E mX10_layRow (d + 1) 0 0 90 [.ref 61, .int x1, .int x2, .null, .null] [] (pw_sI (pw_sI w 93 j1 x2) 61 69 ((pw_I w 61 69) + 1)) Q) :
    px_W E mX10_layRow (d + 1) 0 0 70 [.ref 61, .int x1, .int x2, .null, .null] [] w Q := by
  refine px_aload_n dX10_layRow_70 rfl rfl ?_
  refine px_getR (v := 93) dX10_layRow_71 fr_10_111 rfl (px_sh1 hw sh_61) (px_rf hw rf_61_66) (by decide) ?_
  refine px_aload_n dX10_layRow_74 rfl rfl ?_
  refine px_getI dX10_layRow_75 fr_10_517 rfl (px_sh1 hw sh_61) ?_
  refine px_iload_n dX10_layRow_78 rfl rfl ?_
  refine px_iast dX10_layRow_79 (px_sh2 hw sh_93) (by decide) j1 hj1 hl1 (by omega) ?_
  refine px_aload_n dX10_layRow_80 rfl rfl ?_
  refine px_dup dX10_layRow_81 rfl ?_
  refine px_getIv (v := (pw_I w 61 69)) dX10_layRow_82 fr_10_517 rfl (px_sh1 (hI hw) sh_61) rfl ?_
  refine px_iconst dX10_layRow_85 ic_1 ?_
  refine px_iadd dX10_layRow_86 ?_
  refine px_putI dX10_layRow_87 fl_10_517 (Or.inl rfl) rfl (px_sh1 (hI hw) sh_61) rfl rfl (by omega) ?_
  exact k1
theorem bX10_layRow_90 {E : px_E} {d : Nat} {w : pw_W} {Q : Option Value → pw_W → Prop} {t : ct_T} (hw : w.1 = cs t) {x1 x2 : Int32}  
    (k1 : px_W E mX10_layRow (d + 1) 0 0 7 [.ref 61, .int x1, .int (x2 + 1), .null, .null] [] w Q) :
    px_W E mX10_layRow (d + 1) 0 0 90 [.ref 61, .int x1, .int x2, .null, .null] [] w Q := by
  refine px_iinc (ls' := [.ref 61, .int x1, .int (x2 + 1), .null, .null]) dX10_layRow_90 ⟨by decide, rfl⟩ rfl rfl rfl ?_
  refine px_goto (tgt := 7) dX10_layRow_93 (by decide) ?_
  exact k1
theorem dX10_rounds_0 : decode mX10_rounds.2.1 0 = .ok (.aload_n 0, 1) := by decide +kernel
theorem dX10_rounds_1 : decode mX10_rounds.2.1 1 = .ok (.iconst 0, 1) := by decide +kernel
theorem dX10_rounds_2 : decode mX10_rounds.2.1 2 = .ok (.putfield 437, 3) := by decide +kernel
theorem dX10_rounds_5 : decode mX10_rounds.2.1 5 = .ok (.aload_n 0, 1) := by decide +kernel
theorem dX10_rounds_6 : decode mX10_rounds.2.1 6 = .ok (.iload_n 1, 1) := by decide +kernel
theorem dX10_rounds_7 : decode mX10_rounds.2.1 7 = .ok (.invokevirtual 486, 3) := by decide +kernel
theorem dX10_rounds_10 : decode mX10_rounds.2.1 10 = .ok (.ifCond .eq 13, 3) := by decide +kernel
theorem dX10_rounds_13 : decode mX10_rounds.2.1 13 = .ok (.iload_n 2, 1) := by decide +kernel
theorem dX10_rounds_14 : decode mX10_rounds.2.1 14 = .ok (.iconst 0, 1) := by decide +kernel
theorem dX10_rounds_15 : decode mX10_rounds.2.1 15 = .ok (.bipush 14, 2) := by decide +kernel
theorem dX10_rounds_17 : decode mX10_rounds.2.1 17 = .ok (.invokestatic 440, 3) := by decide +kernel
theorem dX10_rounds_20 : decode mX10_rounds.2.1 20 = .ok (.ifCond .ne 5, 3) := by decide +kernel
theorem dX10_rounds_23 : decode mX10_rounds.2.1 23 = .ok (.iconst (-1), 1) := by decide +kernel
theorem dX10_rounds_24 : decode mX10_rounds.2.1 24 = .ok (.ireturn, 1) := by decide +kernel
theorem dX10_rounds_25 : decode mX10_rounds.2.1 25 = .ok (.bipush 6, 2) := by decide +kernel
theorem dX10_rounds_27 : decode mX10_rounds.2.1 27 = .ok (.iload_n 1, 1) := by decide +kernel
theorem dX10_rounds_28 : decode mX10_rounds.2.1 28 = .ok (.imul, 1) := by decide +kernel
theorem dX10_rounds_29 : decode mX10_rounds.2.1 29 = .ok (.istore_n 3, 1) := by decide +kernel
theorem dX10_rounds_30 : decode mX10_rounds.2.1 30 = .ok (.iconst 0, 1) := by decide +kernel
theorem dX10_rounds_31 : decode mX10_rounds.2.1 31 = .ok (.istore 4, 2) := by decide +kernel
theorem dX10_rounds_33 : decode mX10_rounds.2.1 33 = .ok (.iload 4, 2) := by decide +kernel
theorem dX10_rounds_35 : decode mX10_rounds.2.1 35 = .ok (.aload_n 0, 1) := by decide +kernel
theorem dX10_rounds_36 : decode mX10_rounds.2.1 36 = .ok (.getfield 93, 3) := by decide +kernel
theorem dX10_rounds_39 : decode mX10_rounds.2.1 39 = .ok (.iload_n 1, 1) := by decide +kernel
theorem dX10_rounds_40 : decode mX10_rounds.2.1 40 = .ok (.iaload, 1) := by decide +kernel
theorem dX10_rounds_41 : decode mX10_rounds.2.1 41 = .ok (.if_icmp .ge 25, 3) := by decide +kernel
theorem dX10_rounds_44 : decode mX10_rounds.2.1 44 = .ok (.aload_n 0, 1) := by decide +kernel
theorem dX10_rounds_45 : decode mX10_rounds.2.1 45 = .ok (.getfield 114, 3) := by decide +kernel
theorem dX10_rounds_48 : decode mX10_rounds.2.1 48 = .ok (.iload 4, 2) := by decide +kernel
theorem dX10_rounds_50 : decode mX10_rounds.2.1 50 = .ok (.aload_n 0, 1) := by decide +kernel
theorem dX10_rounds_51 : decode mX10_rounds.2.1 51 = .ok (.getfield 90, 3) := by decide +kernel
theorem dX10_rounds_54 : decode mX10_rounds.2.1 54 = .ok (.iload_n 3, 1) := by decide +kernel
theorem dX10_rounds_55 : decode mX10_rounds.2.1 55 = .ok (.iload 4, 2) := by decide +kernel
theorem dX10_rounds_57 : decode mX10_rounds.2.1 57 = .ok (.iadd, 1) := by decide +kernel
theorem dX10_rounds_58 : decode mX10_rounds.2.1 58 = .ok (.iaload, 1) := by decide +kernel
theorem dX10_rounds_59 : decode mX10_rounds.2.1 59 = .ok (.iastore, 1) := by decide +kernel
theorem dX10_rounds_60 : decode mX10_rounds.2.1 60 = .ok (.iinc 4 1, 3) := by decide +kernel
theorem dX10_rounds_63 : decode mX10_rounds.2.1 63 = .ok (.goto (-30), 3) := by decide +kernel
theorem dX10_rounds_66 : decode mX10_rounds.2.1 66 = .ok (.aload_n 0, 1) := by decide +kernel
theorem dX10_rounds_67 : decode mX10_rounds.2.1 67 = .ok (.iload_n 1, 1) := by decide +kernel
theorem dX10_rounds_68 : decode mX10_rounds.2.1 68 = .ok (.invokevirtual 523, 3) := by decide +kernel
theorem dX10_rounds_71 : decode mX10_rounds.2.1 71 = .ok (.ldc_w 526, 3) := by decide +kernel
theorem dX10_rounds_74 : decode mX10_rounds.2.1 74 = .ok (.istore 4, 2) := by decide +kernel
theorem dX10_rounds_76 : decode mX10_rounds.2.1 76 = .ok (.iconst 1, 1) := by decide +kernel
theorem dX10_rounds_77 : decode mX10_rounds.2.1 77 = .ok (.istore 5, 2) := by decide +kernel
theorem dX10_rounds_79 : decode mX10_rounds.2.1 79 = .ok (.iload 5, 2) := by decide +kernel
theorem dX10_rounds_81 : decode mX10_rounds.2.1 81 = .ok (.ifCond .eq 100, 3) := by decide +kernel
theorem dX10_rounds_84 : decode mX10_rounds.2.1 84 = .ok (.iconst 0, 1) := by decide +kernel
theorem dX10_rounds_85 : decode mX10_rounds.2.1 85 = .ok (.istore 6, 2) := by decide +kernel
theorem dX10_rounds_87 : decode mX10_rounds.2.1 87 = .ok (.iload 6, 2) := by decide +kernel
theorem dX10_rounds_89 : decode mX10_rounds.2.1 89 = .ok (.aload_n 0, 1) := by decide +kernel
theorem dX10_rounds_90 : decode mX10_rounds.2.1 90 = .ok (.getfield 517, 3) := by decide +kernel
theorem dX10_rounds_93 : decode mX10_rounds.2.1 93 = .ok (.if_icmp .ge 25, 3) := by decide +kernel
theorem dX10_rounds_96 : decode mX10_rounds.2.1 96 = .ok (.aload_n 0, 1) := by decide +kernel
theorem dX10_rounds_97 : decode mX10_rounds.2.1 97 = .ok (.getfield 90, 3) := by decide +kernel
theorem dX10_rounds_100 : decode mX10_rounds.2.1 100 = .ok (.iload_n 3, 1) := by decide +kernel
theorem dX10_rounds_101 : decode mX10_rounds.2.1 101 = .ok (.iload 6, 2) := by decide +kernel
theorem dX10_rounds_103 : decode mX10_rounds.2.1 103 = .ok (.iadd, 1) := by decide +kernel
theorem dX10_rounds_104 : decode mX10_rounds.2.1 104 = .ok (.aload_n 0, 1) := by decide +kernel
theorem dX10_rounds_105 : decode mX10_rounds.2.1 105 = .ok (.getfield 111, 3) := by decide +kernel
theorem dX10_rounds_108 : decode mX10_rounds.2.1 108 = .ok (.iload 6, 2) := by decide +kernel
theorem dX10_rounds_110 : decode mX10_rounds.2.1 110 = .ok (.iaload, 1) := by decide +kernel
theorem dX10_rounds_111 : decode mX10_rounds.2.1 111 = .ok (.iastore, 1) := by decide +kernel
theorem dX10_rounds_112 : decode mX10_rounds.2.1 112 = .ok (.iinc 6 1, 3) := by decide +kernel
theorem dX10_rounds_115 : decode mX10_rounds.2.1 115 = .ok (.goto (-28), 3) := by decide +kernel
theorem dX10_rounds_118 : decode mX10_rounds.2.1 118 = .ok (.aload_n 0, 1) := by decide +kernel
theorem dX10_rounds_119 : decode mX10_rounds.2.1 119 = .ok (.invokevirtual 480, 3) := by decide +kernel
theorem dX10_rounds_122 : decode mX10_rounds.2.1 122 = .ok (.aload_n 0, 1) := by decide +kernel
theorem dX10_rounds_123 : decode mX10_rounds.2.1 123 = .ok (.iload_n 2, 1) := by decide +kernel
theorem dX10_rounds_124 : decode mX10_rounds.2.1 124 = .ok (.invokevirtual 507, 3) := by decide +kernel
theorem dX10_rounds_127 : decode mX10_rounds.2.1 127 = .ok (.istore 6, 2) := by decide +kernel
theorem dX10_rounds_129 : decode mX10_rounds.2.1 129 = .ok (.iload 6, 2) := by decide +kernel
theorem dX10_rounds_131 : decode mX10_rounds.2.1 131 = .ok (.iload 4, 2) := by decide +kernel
theorem dX10_rounds_133 : decode mX10_rounds.2.1 133 = .ok (.if_icmp .ge 39, 3) := by decide +kernel
theorem dX10_rounds_136 : decode mX10_rounds.2.1 136 = .ok (.iload 6, 2) := by decide +kernel
theorem dX10_rounds_138 : decode mX10_rounds.2.1 138 = .ok (.istore 4, 2) := by decide +kernel
theorem dX10_rounds_140 : decode mX10_rounds.2.1 140 = .ok (.iconst 0, 1) := by decide +kernel
theorem dX10_rounds_141 : decode mX10_rounds.2.1 141 = .ok (.istore 7, 2) := by decide +kernel
theorem dX10_rounds_143 : decode mX10_rounds.2.1 143 = .ok (.iload 7, 2) := by decide +kernel
theorem dX10_rounds_145 : decode mX10_rounds.2.1 145 = .ok (.aload_n 0, 1) := by decide +kernel
theorem dX10_rounds_146 : decode mX10_rounds.2.1 146 = .ok (.getfield 517, 3) := by decide +kernel
theorem dX10_rounds_149 : decode mX10_rounds.2.1 149 = .ok (.if_icmp .ge 23, 3) := by decide +kernel
theorem dX10_rounds_152 : decode mX10_rounds.2.1 152 = .ok (.aload_n 0, 1) := by decide +kernel
theorem dX10_rounds_153 : decode mX10_rounds.2.1 153 = .ok (.getfield 108, 3) := by decide +kernel
theorem dX10_rounds_156 : decode mX10_rounds.2.1 156 = .ok (.iload 7, 2) := by decide +kernel
theorem dX10_rounds_158 : decode mX10_rounds.2.1 158 = .ok (.aload_n 0, 1) := by decide +kernel
theorem dX10_rounds_159 : decode mX10_rounds.2.1 159 = .ok (.getfield 111, 3) := by decide +kernel
theorem dX10_rounds_162 : decode mX10_rounds.2.1 162 = .ok (.iload 7, 2) := by decide +kernel
theorem dX10_rounds_164 : decode mX10_rounds.2.1 164 = .ok (.iaload, 1) := by decide +kernel
theorem dX10_rounds_165 : decode mX10_rounds.2.1 165 = .ok (.iastore, 1) := by decide +kernel
theorem dX10_rounds_166 : decode mX10_rounds.2.1 166 = .ok (.iinc 7 1, 3) := by decide +kernel
theorem dX10_rounds_169 : decode mX10_rounds.2.1 169 = .ok (.goto (-26), 3) := by decide +kernel
theorem dX10_rounds_172 : decode mX10_rounds.2.1 172 = .ok (.aload_n 0, 1) := by decide +kernel
theorem dX10_rounds_173 : decode mX10_rounds.2.1 173 = .ok (.invokevirtual 527, 3) := by decide +kernel
theorem dX10_rounds_176 : decode mX10_rounds.2.1 176 = .ok (.istore 5, 2) := by decide +kernel
theorem dX10_rounds_178 : decode mX10_rounds.2.1 178 = .ok (.goto (-99), 3) := by decide +kernel
theorem dX10_rounds_181 : decode mX10_rounds.2.1 181 = .ok (.iconst 0, 1) := by decide +kernel
theorem dX10_rounds_182 : decode mX10_rounds.2.1 182 = .ok (.istore 6, 2) := by decide +kernel
theorem dX10_rounds_184 : decode mX10_rounds.2.1 184 = .ok (.iload 6, 2) := by decide +kernel
theorem dX10_rounds_186 : decode mX10_rounds.2.1 186 = .ok (.aload_n 0, 1) := by decide +kernel
theorem dX10_rounds_187 : decode mX10_rounds.2.1 187 = .ok (.getfield 517, 3) := by decide +kernel
theorem dX10_rounds_190 : decode mX10_rounds.2.1 190 = .ok (.if_icmp .ge 25, 3) := by decide +kernel
theorem dX10_rounds_193 : decode mX10_rounds.2.1 193 = .ok (.aload_n 0, 1) := by decide +kernel
theorem dX10_rounds_194 : decode mX10_rounds.2.1 194 = .ok (.getfield 90, 3) := by decide +kernel
theorem dX10_rounds_197 : decode mX10_rounds.2.1 197 = .ok (.iload_n 3, 1) := by decide +kernel
theorem dX10_rounds_198 : decode mX10_rounds.2.1 198 = .ok (.iload 6, 2) := by decide +kernel
theorem dX10_rounds_200 : decode mX10_rounds.2.1 200 = .ok (.iadd, 1) := by decide +kernel
theorem dX10_rounds_201 : decode mX10_rounds.2.1 201 = .ok (.aload_n 0, 1) := by decide +kernel
theorem dX10_rounds_202 : decode mX10_rounds.2.1 202 = .ok (.getfield 114, 3) := by decide +kernel
theorem dX10_rounds_205 : decode mX10_rounds.2.1 205 = .ok (.iload 6, 2) := by decide +kernel
theorem dX10_rounds_207 : decode mX10_rounds.2.1 207 = .ok (.iaload, 1) := by decide +kernel
theorem dX10_rounds_208 : decode mX10_rounds.2.1 208 = .ok (.iastore, 1) := by decide +kernel
theorem dX10_rounds_209 : decode mX10_rounds.2.1 209 = .ok (.iinc 6 1, 3) := by decide +kernel
theorem dX10_rounds_212 : decode mX10_rounds.2.1 212 = .ok (.goto (-28), 3) := by decide +kernel
theorem dX10_rounds_215 : decode mX10_rounds.2.1 215 = .ok (.aload_n 0, 1) := by decide +kernel
theorem dX10_rounds_216 : decode mX10_rounds.2.1 216 = .ok (.aload_n 0, 1) := by decide +kernel
theorem dX10_rounds_217 : decode mX10_rounds.2.1 217 = .ok (.getfield 517, 3) := by decide +kernel
theorem dX10_rounds_220 : decode mX10_rounds.2.1 220 = .ok (.putfield 437, 3) := by decide +kernel
theorem dX10_rounds_223 : decode mX10_rounds.2.1 223 = .ok (.iload 4, 2) := by decide +kernel
theorem dX10_rounds_225 : decode mX10_rounds.2.1 225 = .ok (.ireturn, 1) := by decide +kernel
theorem bX10_rounds_0 {E : px_E} {d : Nat} {w : pw_W} {Q : Option Value → pw_W → Prop} {t : ct_T} (hw : w.1 = cs t) {x1 x2 : Int32}  
    (k1 : ¬ (pX10_isBrother (pw_sI w 61 68 0) x1) → px_W E mX10_rounds (d + 3) 0 0 23 [.null, .null, .null, .null, .null, .null, .null, .null] [] (pw_sI w 61 68 0) Q)
    (k2 : (pX10_isBrother (pw_sI w 61 68 0) x1) → (pX10_isIn x2 0 14) → px_W E mX10_rounds (d + 3) 0 0 33 [.ref 61, .int x1, .int x2, .int (6 * x1), .int 0, .null, .null, .null] [] (pw_sI w 61 68 0) Q)
    (k3 : (pX10_isBrother (pw_sI w 61 68 0) x1) → ¬ (pX10_isIn x2 0 14) → px_W E mX10_rounds (d + 3) 0 0 23 [.null, .null, .null, .null, .null, .null, .null, .null] [] (pw_sI w 61 68 0) Q) :
    px_W E mX10_rounds (d + 3) 0 0 0 [.ref 61, .int x1, .int x2, .null, .null, .null, .null, .null] [] w Q := by
  refine px_aload_n dX10_rounds_0 rfl rfl ?_
  refine px_iconst dX10_rounds_1 ic_0 ?_
  refine px_putI dX10_rounds_2 fl_10_437 (Or.inl rfl) rfl (px_sh1 hw sh_61) rfl rfl (by omega) ?_
  refine px_aload_n dX10_rounds_5 rfl rfl ?_
  refine px_iload_n dX10_rounds_6 rfl rfl ?_
  refine px_callV (As := [.int x1]) (st := []) (rc := 0) (rs := 0) (mc := 0) (ms := 0) dX10_rounds_7 lk_10_486 (px_sh1 (hI hw) sh_61) rfl rfl (Nat.le_of_ble_eq_true rfl) (sX10_isBrother (w := (pw_sI w 61 68 0)) (hI hw) ?_)
  show px_W E mX10_rounds (d + 3) 0 0 10 [.ref 61, .int x1, .int x2, .null, .null, .null, .null, .null] [.int (jb (pX10_isBrother (pw_sI w 61 68 0) x1))] (pw_sI w 61 68 0) Q
  refine px_jb_eq (tgt := 23) dX10_rounds_10 (by decide) (fun h1 => ?_) (fun h1 => ?_)
  ·
    exact px_forget (k1 h1) ⟨Or.inl rfl, Or.inl rfl, Or.inl rfl, Or.inl rfl, Or.inl rfl, Or.inl rfl, Or.inl rfl, Or.inl rfl, trivial⟩
  ·
    refine px_iload_n dX10_rounds_13 rfl rfl ?_
    refine px_iconst dX10_rounds_14 ic_0 ?_
    refine px_bipush dX10_rounds_15 bp_14 ?_
    refine px_callS (As := [.int x2, .int 0, .int 14]) (st := []) (rc := 0) (rs := 0) (mc := 0) (ms := 0) dX10_rounds_17 lk_10_440 rfl rfl (Nat.le_of_ble_eq_true rfl) (sX10_isIn ?_)
    show px_W E mX10_rounds (d + 3) 0 0 20 [.ref 61, .int x1, .int x2, .null, .null, .null, .null, .null] [.int (jb (pX10_isIn x2 0 14))] (pw_sI w 61 68 0) Q
    refine px_jb_ne (tgt := 25) dX10_rounds_20 (by decide) (fun h2 => ?_) (fun h2 => ?_)
    ·
      refine px_bipush dX10_rounds_25 bp_6 ?_
      refine px_iload_n dX10_rounds_27 rfl rfl ?_
      refine px_imul dX10_rounds_28 ?_
      refine px_istore_n (ls' := [.ref 61, .int x1, .int x2, .int (6 * x1), .null, .null, .null, .null]) dX10_rounds_29 rfl ⟨by decide, rfl⟩ rfl ?_
      refine px_iconst dX10_rounds_30 ic_0 ?_
      refine px_istore (ls' := [.ref 61, .int x1, .int x2, .int (6 * x1), .int 0, .null, .null, .null]) dX10_rounds_31 ⟨by decide, rfl⟩ rfl ?_
      exact (k2 h1 h2)
    ·
      exact px_forget (k3 h1 h2) ⟨Or.inl rfl, Or.inl rfl, Or.inl rfl, Or.inl rfl, Or.inl rfl, Or.inl rfl, Or.inl rfl, Or.inl rfl, trivial⟩
theorem eX10_rounds {E : px_E} {d : Nat} {w : pw_W} {Q : Option Value → pw_W → Prop} {t : ct_T} (hw : w.1 = cs t) {x1 x2 : Int32}  
    (k1 : ¬ (pX10_isBrother (pw_sI w 61 68 0) x1) → px_W E mX10_rounds (d + 3) 0 0 23 [.null, .null, .null, .null, .null, .null, .null, .null] [] (pw_sI w 61 68 0) Q)
    (k2 : (pX10_isBrother (pw_sI w 61 68 0) x1) → (pX10_isIn x2 0 14) → px_W E mX10_rounds (d + 3) 0 0 33 [.ref 61, .int x1, .int x2, .int (6 * x1), .int 0, .null, .null, .null] [] (pw_sI w 61 68 0) Q)
    (k3 : (pX10_isBrother (pw_sI w 61 68 0) x1) → ¬ (pX10_isIn x2 0 14) → px_W E mX10_rounds (d + 3) 0 0 23 [.null, .null, .null, .null, .null, .null, .null, .null] [] (pw_sI w 61 68 0) Q) :
    px_Call E (d + 3) 0 0 mX10_rounds [.ref 61, .int x1, .int x2] w Q :=
  px_enter (k := 5) (by decide) (Nat.le_of_ble_eq_true rfl) rfl (px_forget (bX10_rounds_0 hw k1 k2 k3) ⟨Or.inr rfl, Or.inr rfl, Or.inr rfl, Or.inl rfl, Or.inl rfl, Or.inl rfl, Or.inl rfl, Or.inl rfl, trivial⟩)
theorem bX10_rounds_23 {E : px_E} {d : Nat} {w : pw_W} {Q : Option Value → pw_W → Prop} {t : ct_T} (hw : w.1 = cs t)  
    (k1 : Q (some (.int (-1))) w) :
    px_W E mX10_rounds (d + 3) 0 0 23 [.null, .null, .null, .null, .null, .null, .null, .null] [] w Q := by
  refine px_iconst dX10_rounds_23 ic_m1 ?_
  exact px_ireturn dX10_rounds_24 rfl rfl k1
theorem bX10_rounds_33 {E : px_E} {d : Nat} {w : pw_W} {Q : Option Value → pw_W → Prop} {t : ct_T} (hw : w.1 = cs t) {x1 x2 x3 x4 : Int32}  (j1 : Nat) (hj1 : x1 = nI j1) (hl1 : j1 < 2)
    (k1 : (pw_I w 88 j1) ≤ x4 → px_Call E (d + 2) 0 0 mX10_layRow [.ref 61, .int x1] w (fun v w' => px_W E mX10_rounds (d + 3) 0 0 71 [.ref 61, .null, .int x2, .int x3, .null, .null, .null, .null] (v.toList ++ []) w' Q))
    (k2 : ¬ (pw_I w 88 j1) ≤ x4 → px_W E mX10_rounds (d + 3) 0 0 44 [.ref 61, .int x1, .int x2, .int x3, .int x4, .null, .null, .null] [] w Q) :
    px_W E mX10_rounds (d + 3) 0 0 33 [.ref 61, .int x1, .int x2, .int x3, .int x4, .null, .null, .null] [] w Q := by
  refine px_iload dX10_rounds_33 rfl ?_
  refine px_aload_n dX10_rounds_35 rfl rfl ?_
  refine px_getR (v := 88) dX10_rounds_36 fr_10_93 rfl (px_sh1 hw sh_61) (px_rf hw rf_61_44) (by decide) ?_
  refine px_iload_n dX10_rounds_39 rfl rfl ?_
  refine px_iald dX10_rounds_40 (px_sh2 hw sh_88) (by decide) j1 hj1 hl1 ?_
  refine px_icmp_ge (tgt := 66) dX10_rounds_41 (by decide) (fun h1 => ?_) (fun h1 => ?_)
  ·
    refine px_aload_n dX10_rounds_66 rfl rfl ?_
    refine px_iload_n dX10_rounds_67 rfl rfl ?_
    refine px_forget (ls' := [.ref 61, .null, .int x2, .int x3, .null, .null, .null, .null]) ?_ ⟨Or.inr rfl, Or.inl rfl, Or.inr rfl, Or.inr rfl, Or.inl rfl, Or.inl rfl, Or.inl rfl, Or.inl rfl, trivial⟩
    exact px_callV (As := [.int x1]) (st := []) (rc := 0) (rs := 0) (mc := 0) (ms := 0) dX10_rounds_68 lk_10_523 (px_sh1 hw sh_61) rfl rfl (Nat.le_of_ble_eq_true rfl) (k1 h1)
  ·
    exact (k2 h1)
theorem bX10_rounds_44 {E : px_E} {d : Nat} {w : pw_W} {Q : Option Value → pw_W → Prop} {t : ct_T} (hw : w.1 = cs t) {x1 x2 x3 x4 : Int32}  (j1 : Nat) (hj1 : (x3 + x4) = nI j1) (hl1 : j1 < 12) (j2 : Nat) (hj2 : x4 = nI j2) (hl2 : j2 < 6)
    (k1 : px_W E mX10_rounds (d + 3) 0 0 33 [.ref 61, .int x1, .int x2, .int x3, .int (x4 + 1), .null, .null, .null] [] (pw_sI w 94 j2 (pw_I w 87 j1)) Q) :
    px_W E mX10_rounds (d + 3) 0 0 44 [.ref 61, .int x1, .int x2, .int x3, .int x4, .null, .null, .null] [] w Q := by
  refine px_aload_n dX10_rounds_44 rfl rfl ?_
  refine px_getR (v := 94) dX10_rounds_45 fr_10_114 rfl (px_sh1 hw sh_61) (px_rf hw rf_61_67) (by decide) ?_
  refine px_iload dX10_rounds_48 rfl ?_
  refine px_aload_n dX10_rounds_50 rfl rfl ?_
  refine px_getR (v := 87) dX10_rounds_51 fr_10_90 rfl (px_sh1 hw sh_61) (px_rf hw rf_61_43) (by decide) ?_
  refine px_iload_n dX10_rounds_54 rfl rfl ?_
  refine px_iload dX10_rounds_55 rfl ?_
  refine px_iadd dX10_rounds_57 ?_
  refine px_iald dX10_rounds_58 (px_sh2 hw sh_87) (by decide) j1 hj1 hl1 ?_
  refine px_iast dX10_rounds_59 (px_sh2 hw sh_94) (by decide) j2 hj2 hl2 (by omega) ?_
  refine px_iinc (ls' := [.ref 61, .int x1, .int x2, .int x3, .int (x4 + 1), .null, .null, .null]) dX10_rounds_60 ⟨by decide, rfl⟩ rfl rfl rfl ?_
  refine px_goto (tgt := 33) dX10_rounds_63 (by decide) ?_
  exact k1
theorem bX10_rounds_71 {E : px_E} {d : Nat} {w : pw_W} {Q : Option Value → pw_W → Prop} {t : ct_T} (hw : w.1 = cs t) {x2 x3 : Int32}  
    (k1 : px_W E mX10_rounds (d + 3) 0 0 79 [.ref 61, .null, .int x2, .int x3, .int 1000000, .int 1, .null, .null] [] w Q) :
    px_W E mX10_rounds (d + 3) 0 0 71 [.ref 61, .null, .int x2, .int x3, .null, .null, .null, .null] [] w Q := by
  refine px_ldcw dX10_rounds_71 (px_in8 117 rfl rfl) ?_
  refine px_istore (ls' := [.ref 61, .null, .int x2, .int x3, .int 1000000, .null, .null, .null]) dX10_rounds_74 ⟨by decide, rfl⟩ rfl ?_
  refine px_iconst dX10_rounds_76 ic_1 ?_
  refine px_istore (ls' := [.ref 61, .null, .int x2, .int x3, .int 1000000, .int 1, .null, .null]) dX10_rounds_77 ⟨by decide, rfl⟩ rfl ?_
  exact k1
theorem bX10_rounds_79 {E : px_E} {d : Nat} {w : pw_W} {Q : Option Value → pw_W → Prop} {t : ct_T} (hw : w.1 = cs t) {x2 x3 x4 x5 : Int32}  
    (k1 : x5 = 0 → px_W E mX10_rounds (d + 3) 0 0 184 [.ref 61, .null, .null, .int x3, .int x4, .null, .int 0, .null] [] w Q)
    (k2 : ¬ x5 = 0 → px_W E mX10_rounds (d + 3) 0 0 87 [.ref 61, .null, .int x2, .int x3, .int x4, .null, .int 0, .null] [] w Q) :
    px_W E mX10_rounds (d + 3) 0 0 79 [.ref 61, .null, .int x2, .int x3, .int x4, .int x5, .null, .null] [] w Q := by
  refine px_iload dX10_rounds_79 rfl ?_
  refine px_if_eq (tgt := 181) dX10_rounds_81 (by decide) (fun h1 => ?_) (fun h1 => ?_)
  ·
    refine px_iconst dX10_rounds_181 ic_0 ?_
    refine px_istore (ls' := [.ref 61, .null, .int x2, .int x3, .int x4, .int x5, .int 0, .null]) dX10_rounds_182 ⟨by decide, rfl⟩ rfl ?_
    exact px_forget (k1 h1) ⟨Or.inr rfl, Or.inl rfl, Or.inl rfl, Or.inr rfl, Or.inr rfl, Or.inl rfl, Or.inr rfl, Or.inl rfl, trivial⟩
  ·
    refine px_iconst dX10_rounds_84 ic_0 ?_
    refine px_istore (ls' := [.ref 61, .null, .int x2, .int x3, .int x4, .int x5, .int 0, .null]) dX10_rounds_85 ⟨by decide, rfl⟩ rfl ?_
    exact px_forget (k2 h1) ⟨Or.inr rfl, Or.inl rfl, Or.inr rfl, Or.inr rfl, Or.inr rfl, Or.inl rfl, Or.inr rfl, Or.inl rfl, trivial⟩
theorem bX10_rounds_87 {E : px_E} {d : Nat} {w : pw_W} {Q : Option Value → pw_W → Prop} {t : ct_T} (hw : w.1 = cs t) {x2 x3 x4 x6 : Int32}  
    (k1 : (pw_I w 61 69) ≤ x6 → px_Call E (d + 2) 0 0 mX10_fill [.ref 61] w (fun v w' => px_W E mX10_rounds (d + 3) 0 0 122 [.ref 61, .null, .int x2, .int x3, .int x4, .null, .null, .null] (v.toList ++ []) w' Q))
    (k2 : ¬ (pw_I w 61 69) ≤ x6 → px_W E mX10_rounds (d + 3) 0 0 96 [.ref 61, .null, .int x2, .int x3, .int x4, .null, .int x6, .null] [] w Q) :
    px_W E mX10_rounds (d + 3) 0 0 87 [.ref 61, .null, .int x2, .int x3, .int x4, .null, .int x6, .null] [] w Q := by
  refine px_iload dX10_rounds_87 rfl ?_
  refine px_aload_n dX10_rounds_89 rfl rfl ?_
  refine px_getI dX10_rounds_90 fr_10_517 rfl (px_sh1 hw sh_61) ?_
  refine px_icmp_ge (tgt := 118) dX10_rounds_93 (by decide) (fun h1 => ?_) (fun h1 => ?_)
  ·
    refine px_aload_n dX10_rounds_118 rfl rfl ?_
    refine px_forget (ls' := [.ref 61, .null, .int x2, .int x3, .int x4, .null, .null, .null]) ?_ ⟨Or.inr rfl, Or.inl rfl, Or.inr rfl, Or.inr rfl, Or.inr rfl, Or.inl rfl, Or.inl rfl, Or.inl rfl, trivial⟩
    exact px_callV (As := []) (st := []) (rc := 0) (rs := 0) (mc := 0) (ms := 0) dX10_rounds_119 lk_10_480 (px_sh1 hw sh_61) rfl rfl (Nat.le_of_ble_eq_true rfl) (k1 h1)
  ·
    exact (k2 h1)
theorem bX10_rounds_96 {E : px_E} {d : Nat} {w : pw_W} {Q : Option Value → pw_W → Prop} {t : ct_T} (hw : w.1 = cs t) {x2 x3 x4 x6 : Int32}  (j1 : Nat) (hj1 : x6 = nI j1) (hl1 : j1 < 6) (j2 : Nat) (hj2 : (x3 + x6) = nI j2) (hl2 : j2 < 12)
    (k1 : px_W E mX10_rounds (d + 3) 0 0 87 [.ref 61, .null, .int x2, .int x3, .int x4, .null, .int (x6 + 1), .null] [] (pw_sI w 87 j2 (pw_I w 93 j1)) Q) :
    px_W E mX10_rounds (d + 3) 0 0 96 [.ref 61, .null, .int x2, .int x3, .int x4, .null, .int x6, .null] [] w Q := by
  refine px_aload_n dX10_rounds_96 rfl rfl ?_
  refine px_getR (v := 87) dX10_rounds_97 fr_10_90 rfl (px_sh1 hw sh_61) (px_rf hw rf_61_43) (by decide) ?_
  refine px_iload_n dX10_rounds_100 rfl rfl ?_
  refine px_iload dX10_rounds_101 rfl ?_
  refine px_iadd dX10_rounds_103 ?_
  refine px_aload_n dX10_rounds_104 rfl rfl ?_
  refine px_getR (v := 93) dX10_rounds_105 fr_10_111 rfl (px_sh1 hw sh_61) (px_rf hw rf_61_66) (by decide) ?_
  refine px_iload dX10_rounds_108 rfl ?_
  refine px_iald dX10_rounds_110 (px_sh2 hw sh_93) (by decide) j1 hj1 hl1 ?_
  refine px_iast dX10_rounds_111 (px_sh2 hw sh_87) (by decide) j2 hj2 hl2 (by omega) ?_
  refine px_iinc (ls' := [.ref 61, .null, .int x2, .int x3, .int x4, .null, .int (x6 + 1), .null]) dX10_rounds_112 ⟨by decide, rfl⟩ rfl rfl rfl ?_
  refine px_goto (tgt := 87) dX10_rounds_115 (by decide) ?_
  exact k1
theorem bX10_rounds_122 {E : px_E} {d : Nat} {w : pw_W} {Q : Option Value → pw_W → Prop} {t : ct_T} (hw : w.1 = cs t) {x2 x3 x4 : Int32}  
    (k1 : px_Call E (d + 2) 0 0 mX10_hurtBehind [.ref 61, .int x2] w (fun v w' => px_W E mX10_rounds (d + 3) 0 0 127 [.ref 61, .null, .int x2, .int x3, .int x4, .null, .null, .null] (v.toList ++ []) w' Q)) :
    px_W E mX10_rounds (d + 3) 0 0 122 [.ref 61, .null, .int x2, .int x3, .int x4, .null, .null, .null] [] w Q := by
  refine px_aload_n dX10_rounds_122 rfl rfl ?_
  refine px_iload_n dX10_rounds_123 rfl rfl ?_
  exact px_callV (As := [.int x2]) (st := []) (rc := 0) (rs := 0) (mc := 0) (ms := 0) dX10_rounds_124 lk_10_507 (px_sh1 hw sh_61) rfl rfl (Nat.le_of_ble_eq_true rfl) k1
theorem bX10_rounds_127 {E : px_E} {d : Nat} {w : pw_W} {Q : Option Value → pw_W → Prop} {t : ct_T} (hw : w.1 = cs t) {x2 x3 x4 y0 : Int32}  
    (k1 : x4 ≤ y0 → px_W E mX10_rounds (d + 3) 0 0 172 [.ref 61, .null, .int x2, .int x3, .int x4, .null, .null, .null] [] w Q)
    (k2 : ¬ x4 ≤ y0 → px_W E mX10_rounds (d + 3) 0 0 143 [.ref 61, .null, .int x2, .int x3, .int y0, .null, .null, .int 0] [] w Q) :
    px_W E mX10_rounds (d + 3) 0 0 127 [.ref 61, .null, .int x2, .int x3, .int x4, .null, .null, .null] [.int y0] w Q := by
  refine px_istore (ls' := [.ref 61, .null, .int x2, .int x3, .int x4, .null, .int y0, .null]) dX10_rounds_127 ⟨by decide, rfl⟩ rfl ?_
  refine px_iload dX10_rounds_129 rfl ?_
  refine px_iload dX10_rounds_131 rfl ?_
  refine px_icmp_ge (tgt := 172) dX10_rounds_133 (by decide) (fun h1 => ?_) (fun h1 => ?_)
  ·
    exact px_forget (k1 h1) ⟨Or.inr rfl, Or.inl rfl, Or.inr rfl, Or.inr rfl, Or.inr rfl, Or.inl rfl, Or.inl rfl, Or.inl rfl, trivial⟩
  ·
    refine px_iload dX10_rounds_136 rfl ?_
    refine px_istore (ls' := [.ref 61, .null, .int x2, .int x3, .int y0, .null, .int y0, .null]) dX10_rounds_138 ⟨by decide, rfl⟩ rfl ?_
    refine px_iconst dX10_rounds_140 ic_0 ?_
    refine px_istore (ls' := [.ref 61, .null, .int x2, .int x3, .int y0, .null, .int y0, .int 0]) dX10_rounds_141 ⟨by decide, rfl⟩ rfl ?_
    exact px_forget (k2 h1) ⟨Or.inr rfl, Or.inl rfl, Or.inr rfl, Or.inr rfl, Or.inr rfl, Or.inl rfl, Or.inl rfl, Or.inr rfl, trivial⟩
theorem bX10_rounds_143 {E : px_E} {d : Nat} {w : pw_W} {Q : Option Value → pw_W → Prop} {t : ct_T} (hw : w.1 = cs t) {x2 x3 x4 x7 : Int32}  
    (k1 : (pw_I w 61 69) ≤ x7 → px_W E mX10_rounds (d + 3) 0 0 172 [.ref 61, .null, .int x2, .int x3, .int x4, .null, .null, .null] [] w Q)
    (k2 : ¬ (pw_I w 61 69) ≤ x7 → px_W E mX10_rounds (d + 3) 0 0 152 [.ref 61, .null, .int x2, .int x3, .int x4, .null, .null, .int x7] [] w Q) :
    px_W E mX10_rounds (d + 3) 0 0 143 [.ref 61, .null, .int x2, .int x3, .int x4, .null, .null, .int x7] [] w Q := by
  refine px_iload dX10_rounds_143 rfl ?_
  refine px_aload_n dX10_rounds_145 rfl rfl ?_
  refine px_getI dX10_rounds_146 fr_10_517 rfl (px_sh1 hw sh_61) ?_
  refine px_icmp_ge (tgt := 172) dX10_rounds_149 (by decide) (fun h1 => ?_) (fun h1 => ?_)
  ·
    exact px_forget (k1 h1) ⟨Or.inr rfl, Or.inl rfl, Or.inr rfl, Or.inr rfl, Or.inr rfl, Or.inl rfl, Or.inl rfl, Or.inl rfl, trivial⟩
  ·
    exact (k2 h1)
theorem bX10_rounds_152 {E : px_E} {d : Nat} {w : pw_W} {Q : Option Value → pw_W → Prop} {t : ct_T} (hw : w.1 = cs t) {x2 x3 x4 x7 : Int32}  (j1 : Nat) (hj1 : x7 = nI j1) (hl1 : j1 < 6)
    (k1 : px_W E mX10_rounds (d + 3) 0 0 143 [.ref 61, .null, .int x2, .int x3, .int x4, .null, .null, .int (x7 + 1)] [] (pw_sI w 92 j1 (pw_I w 93 j1)) Q) :
    px_W E mX10_rounds (d + 3) 0 0 152 [.ref 61, .null, .int x2, .int x3, .int x4, .null, .null, .int x7] [] w Q := by
  refine px_aload_n dX10_rounds_152 rfl rfl ?_
  refine px_getR (v := 92) dX10_rounds_153 fr_10_108 rfl (px_sh1 hw sh_61) (px_rf hw rf_61_65) (by decide) ?_
  refine px_iload dX10_rounds_156 rfl ?_
  refine px_aload_n dX10_rounds_158 rfl rfl ?_
  refine px_getR (v := 93) dX10_rounds_159 fr_10_111 rfl (px_sh1 hw sh_61) (px_rf hw rf_61_66) (by decide) ?_
  refine px_iload dX10_rounds_162 rfl ?_
  refine px_iald dX10_rounds_164 (px_sh2 hw sh_93) (by decide) j1 hj1 hl1 ?_
  refine px_iast dX10_rounds_165 (px_sh2 hw sh_92) (by decide) j1 hj1 hl1 (by omega) ?_
  refine px_iinc (ls' := [.ref 61, .null, .int x2, .int x3, .int x4, .null, .null, .int (x7 + 1)]) dX10_rounds_166 ⟨by decide, rfl⟩ rfl rfl rfl ?_
  refine px_goto (tgt := 143) dX10_rounds_169 (by decide) ?_
  exact k1
theorem bX10_rounds_172 {E : px_E} {d : Nat} {w : pw_W} {Q : Option Value → pw_W → Prop} {t : ct_T} (hw : w.1 = cs t) {x2 x3 x4 : Int32}  
    (k1 : px_Call E (d + 2) 0 0 mX10_nextRow [.ref 61] w (fun v w' => px_W E mX10_rounds (d + 3) 0 0 176 [.ref 61, .null, .int x2, .int x3, .int x4, .null, .null, .null] (v.toList ++ []) w' Q)) :
    px_W E mX10_rounds (d + 3) 0 0 172 [.ref 61, .null, .int x2, .int x3, .int x4, .null, .null, .null] [] w Q := by
  refine px_aload_n dX10_rounds_172 rfl rfl ?_
  exact px_callV (As := []) (st := []) (rc := 0) (rs := 0) (mc := 0) (ms := 0) dX10_rounds_173 lk_10_527 (px_sh1 hw sh_61) rfl rfl (Nat.le_of_ble_eq_true rfl) k1
theorem bX10_rounds_176 {E : px_E} {d : Nat} {w : pw_W} {Q : Option Value → pw_W → Prop} {t : ct_T} (hw : w.1 = cs t) {x2 x3 x4 y0 : Int32}  
    (k1 : px_W E mX10_rounds (d + 3) 0 0 79 [.ref 61, .null, .int x2, .int x3, .int x4, .int y0, .null, .null] [] w Q) :
    px_W E mX10_rounds (d + 3) 0 0 176 [.ref 61, .null, .int x2, .int x3, .int x4, .null, .null, .null] [.int y0] w Q := by
  refine px_istore (ls' := [.ref 61, .null, .int x2, .int x3, .int x4, .int y0, .null, .null]) dX10_rounds_176 ⟨by decide, rfl⟩ rfl ?_
  refine px_goto (tgt := 79) dX10_rounds_178 (by decide) ?_
  exact k1
theorem bX10_rounds_184 {E : px_E} {d : Nat} {w : pw_W} {Q : Option Value → pw_W → Prop} {t : ct_T} (hw : w.1 = cs t) {x3 x4 x6 : Int32}  
    (k1 : (pw_I w 61 69) ≤ x6 → Q (some (.int x4)) (pw_sI w 61 68 (pw_I w 61 69)))
    (k2 : ¬ (pw_I w 61 69) ≤ x6 → px_W E mX10_rounds (d + 3) 0 0 193 [.ref 61, .null, .null, .int x3, .int x4, .null, .int x6, .null] [] w Q) :
    px_W E mX10_rounds (d + 3) 0 0 184 [.ref 61, .null, .null, .int x3, .int x4, .null, .int x6, .null] [] w Q := by
  refine px_iload dX10_rounds_184 rfl ?_
  refine px_aload_n dX10_rounds_186 rfl rfl ?_
  refine px_getI dX10_rounds_187 fr_10_517 rfl (px_sh1 hw sh_61) ?_
  refine px_icmp_ge (tgt := 215) dX10_rounds_190 (by decide) (fun h1 => ?_) (fun h1 => ?_)
  ·
    refine px_aload_n dX10_rounds_215 rfl rfl ?_
    refine px_aload_n dX10_rounds_216 rfl rfl ?_
    refine px_getI dX10_rounds_217 fr_10_517 rfl (px_sh1 hw sh_61) ?_
    refine px_putI dX10_rounds_220 fl_10_437 (Or.inl rfl) rfl (px_sh1 hw sh_61) rfl rfl (by omega) ?_
    refine px_iload dX10_rounds_223 rfl ?_
    exact px_ireturn dX10_rounds_225 rfl rfl (k1 h1)
  ·
    exact (k2 h1)
theorem bX10_rounds_193 {E : px_E} {d : Nat} {w : pw_W} {Q : Option Value → pw_W → Prop} {t : ct_T} (hw : w.1 = cs t) {x3 x4 x6 : Int32}  (j1 : Nat) (hj1 : x6 = nI j1) (hl1 : j1 < 6) (j2 : Nat) (hj2 : (x3 + x6) = nI j2) (hl2 : j2 < 12)
    (k1 : px_W E mX10_rounds (d + 3) 0 0 184 [.ref 61, .null, .null, .int x3, .int x4, .null, .int (x6 + 1), .null] [] (pw_sI w 87 j2 (pw_I w 94 j1)) Q) :
    px_W E mX10_rounds (d + 3) 0 0 193 [.ref 61, .null, .null, .int x3, .int x4, .null, .int x6, .null] [] w Q := by
  refine px_aload_n dX10_rounds_193 rfl rfl ?_
  refine px_getR (v := 87) dX10_rounds_194 fr_10_90 rfl (px_sh1 hw sh_61) (px_rf hw rf_61_43) (by decide) ?_
  refine px_iload_n dX10_rounds_197 rfl rfl ?_
  refine px_iload dX10_rounds_198 rfl ?_
  refine px_iadd dX10_rounds_200 ?_
  refine px_aload_n dX10_rounds_201 rfl rfl ?_
  refine px_getR (v := 94) dX10_rounds_202 fr_10_114 rfl (px_sh1 hw sh_61) (px_rf hw rf_61_67) (by decide) ?_
  refine px_iload dX10_rounds_205 rfl ?_
  refine px_iald dX10_rounds_207 (px_sh2 hw sh_94) (by decide) j1 hj1 hl1 ?_
  refine px_iast dX10_rounds_208 (px_sh2 hw sh_87) (by decide) j2 hj2 hl2 (by omega) ?_
  refine px_iinc (ls' := [.ref 61, .null, .null, .int x3, .int x4, .null, .int (x6 + 1), .null]) dX10_rounds_209 ⟨by decide, rfl⟩ rfl rfl rfl ?_
  refine px_goto (tgt := 184) dX10_rounds_212 (by decide) ?_
  exact k1
theorem dX10_grip_0 : decode mX10_grip.2.1 0 = .ok (.aload_n 0, 1) := by decide +kernel
theorem dX10_grip_1 : decode mX10_grip.2.1 1 = .ok (.iload_n 1, 1) := by decide +kernel
theorem dX10_grip_2 : decode mX10_grip.2.1 2 = .ok (.invokevirtual 477, 3) := by decide +kernel
theorem dX10_grip_5 : decode mX10_grip.2.1 5 = .ok (.ifCond .eq 13, 3) := by decide +kernel
theorem dX10_grip_8 : decode mX10_grip.2.1 8 = .ok (.iload_n 2, 1) := by decide +kernel
theorem dX10_grip_9 : decode mX10_grip.2.1 9 = .ok (.iconst 0, 1) := by decide +kernel
theorem dX10_grip_10 : decode mX10_grip.2.1 10 = .ok (.bipush 30, 2) := by decide +kernel
theorem dX10_grip_12 : decode mX10_grip.2.1 12 = .ok (.invokestatic 440, 3) := by decide +kernel
theorem dX10_grip_15 : decode mX10_grip.2.1 15 = .ok (.ifCond .ne 5, 3) := by decide +kernel
theorem dX10_grip_18 : decode mX10_grip.2.1 18 = .ok (.iconst (-1), 1) := by decide +kernel
theorem dX10_grip_19 : decode mX10_grip.2.1 19 = .ok (.ireturn, 1) := by decide +kernel
theorem dX10_grip_20 : decode mX10_grip.2.1 20 = .ok (.iconst 0, 1) := by decide +kernel
theorem dX10_grip_21 : decode mX10_grip.2.1 21 = .ok (.istore_n 3, 1) := by decide +kernel
theorem dX10_grip_22 : decode mX10_grip.2.1 22 = .ok (.iload_n 3, 1) := by decide +kernel
theorem dX10_grip_23 : decode mX10_grip.2.1 23 = .ok (.bipush 30, 2) := by decide +kernel
theorem dX10_grip_25 : decode mX10_grip.2.1 25 = .ok (.if_icmp .gt 33, 3) := by decide +kernel
theorem dX10_grip_28 : decode mX10_grip.2.1 28 = .ok (.aload_n 0, 1) := by decide +kernel
theorem dX10_grip_29 : decode mX10_grip.2.1 29 = .ok (.invokevirtual 480, 3) := by decide +kernel
theorem dX10_grip_32 : decode mX10_grip.2.1 32 = .ok (.aload_n 0, 1) := by decide +kernel
theorem dX10_grip_33 : decode mX10_grip.2.1 33 = .ok (.getfield 102, 3) := by decide +kernel
theorem dX10_grip_36 : decode mX10_grip.2.1 36 = .ok (.iload_n 1, 1) := by decide +kernel
theorem dX10_grip_37 : decode mX10_grip.2.1 37 = .ok (.iload_n 3, 1) := by decide +kernel
theorem dX10_grip_38 : decode mX10_grip.2.1 38 = .ok (.iastore, 1) := by decide +kernel
theorem dX10_grip_39 : decode mX10_grip.2.1 39 = .ok (.aload_n 0, 1) := by decide +kernel
theorem dX10_grip_40 : decode mX10_grip.2.1 40 = .ok (.iconst 1, 1) := by decide +kernel
theorem dX10_grip_41 : decode mX10_grip.2.1 41 = .ok (.iload_n 1, 1) := by decide +kernel
theorem dX10_grip_42 : decode mX10_grip.2.1 42 = .ok (.ishl, 1) := by decide +kernel
theorem dX10_grip_43 : decode mX10_grip.2.1 43 = .ok (.iload_n 2, 1) := by decide +kernel
theorem dX10_grip_44 : decode mX10_grip.2.1 44 = .ok (.invokevirtual 513, 3) := by decide +kernel
theorem dX10_grip_47 : decode mX10_grip.2.1 47 = .ok (.ifCond .eq 5, 3) := by decide +kernel
theorem dX10_grip_50 : decode mX10_grip.2.1 50 = .ok (.iload_n 3, 1) := by decide +kernel
theorem dX10_grip_51 : decode mX10_grip.2.1 51 = .ok (.ireturn, 1) := by decide +kernel
theorem dX10_grip_52 : decode mX10_grip.2.1 52 = .ok (.iinc 3 1, 3) := by decide +kernel
theorem dX10_grip_55 : decode mX10_grip.2.1 55 = .ok (.goto (-33), 3) := by decide +kernel
theorem dX10_grip_58 : decode mX10_grip.2.1 58 = .ok (.iconst (-1), 1) := by decide +kernel
theorem dX10_grip_59 : decode mX10_grip.2.1 59 = .ok (.ireturn, 1) := by decide +kernel
theorem bX10_grip_0 {E : px_E} {d : Nat} {w : pw_W} {Q : Option Value → pw_W → Prop} {t : ct_T} (hw : w.1 = cs t) {x1 x2 : Int32}  
    (k1 : ¬ (pX10_isPerson w x1) → px_W E mX10_grip (d + 3) 0 0 18 [.null, .null, .null, .null] [] w Q)
    (k2 : (pX10_isPerson w x1) → (pX10_isIn x2 0 30) → px_W E mX10_grip (d + 3) 0 0 22 [.ref 61, .int x1, .int x2, .int 0] [] w Q)
    (k3 : (pX10_isPerson w x1) → ¬ (pX10_isIn x2 0 30) → px_W E mX10_grip (d + 3) 0 0 18 [.null, .null, .null, .null] [] w Q) :
    px_W E mX10_grip (d + 3) 0 0 0 [.ref 61, .int x1, .int x2, .null] [] w Q := by
  refine px_aload_n dX10_grip_0 rfl rfl ?_
  refine px_iload_n dX10_grip_1 rfl rfl ?_
  refine px_callV (As := [.int x1]) (st := []) (rc := 0) (rs := 0) (mc := 0) (ms := 0) dX10_grip_2 lk_10_477 (px_sh1 hw sh_61) rfl rfl (Nat.le_of_ble_eq_true rfl) (sX10_isPerson (w := w) hw ?_)
  show px_W E mX10_grip (d + 3) 0 0 5 [.ref 61, .int x1, .int x2, .null] [.int (jb (pX10_isPerson w x1))] w Q
  refine px_jb_eq (tgt := 18) dX10_grip_5 (by decide) (fun h1 => ?_) (fun h1 => ?_)
  ·
    exact px_forget (k1 h1) ⟨Or.inl rfl, Or.inl rfl, Or.inl rfl, Or.inl rfl, trivial⟩
  ·
    refine px_iload_n dX10_grip_8 rfl rfl ?_
    refine px_iconst dX10_grip_9 ic_0 ?_
    refine px_bipush dX10_grip_10 bp_30 ?_
    refine px_callS (As := [.int x2, .int 0, .int 30]) (st := []) (rc := 0) (rs := 0) (mc := 0) (ms := 0) dX10_grip_12 lk_10_440 rfl rfl (Nat.le_of_ble_eq_true rfl) (sX10_isIn ?_)
    show px_W E mX10_grip (d + 3) 0 0 15 [.ref 61, .int x1, .int x2, .null] [.int (jb (pX10_isIn x2 0 30))] w Q
    refine px_jb_ne (tgt := 20) dX10_grip_15 (by decide) (fun h2 => ?_) (fun h2 => ?_)
    ·
      refine px_iconst dX10_grip_20 ic_0 ?_
      refine px_istore_n (ls' := [.ref 61, .int x1, .int x2, .int 0]) dX10_grip_21 rfl ⟨by decide, rfl⟩ rfl ?_
      exact (k2 h1 h2)
    ·
      exact px_forget (k3 h1 h2) ⟨Or.inl rfl, Or.inl rfl, Or.inl rfl, Or.inl rfl, trivial⟩
theorem eX10_grip {E : px_E} {d : Nat} {w : pw_W} {Q : Option Value → pw_W → Prop} {t : ct_T} (hw : w.1 = cs t) {x1 x2 : Int32}  
    (k1 : ¬ (pX10_isPerson w x1) → px_W E mX10_grip (d + 3) 0 0 18 [.null, .null, .null, .null] [] w Q)
    (k2 : (pX10_isPerson w x1) → (pX10_isIn x2 0 30) → px_W E mX10_grip (d + 3) 0 0 22 [.ref 61, .int x1, .int x2, .int 0] [] w Q)
    (k3 : (pX10_isPerson w x1) → ¬ (pX10_isIn x2 0 30) → px_W E mX10_grip (d + 3) 0 0 18 [.null, .null, .null, .null] [] w Q) :
    px_Call E (d + 3) 0 0 mX10_grip [.ref 61, .int x1, .int x2] w Q :=
  px_enter (k := 1) (by decide) (Nat.le_of_ble_eq_true rfl) rfl (px_forget (bX10_grip_0 hw k1 k2 k3) ⟨Or.inr rfl, Or.inr rfl, Or.inr rfl, Or.inl rfl, trivial⟩)
theorem bX10_grip_18 {E : px_E} {d : Nat} {w : pw_W} {Q : Option Value → pw_W → Prop} {t : ct_T} (hw : w.1 = cs t)  
    (k1 : Q (some (.int (-1))) w) :
    px_W E mX10_grip (d + 3) 0 0 18 [.null, .null, .null, .null] [] w Q := by
  refine px_iconst dX10_grip_18 ic_m1 ?_
  exact px_ireturn dX10_grip_19 rfl rfl k1
theorem bX10_grip_22 {E : px_E} {d : Nat} {w : pw_W} {Q : Option Value → pw_W → Prop} {t : ct_T} (hw : w.1 = cs t) {x1 x2 x3 : Int32}  
    (k1 : 30 < x3 → Q (some (.int (-1))) w)
    (k2 : ¬ 30 < x3 → px_Call E (d + 2) 0 0 mX10_fill [.ref 61] w (fun v w' => px_W E mX10_grip (d + 3) 0 0 32 [.ref 61, .int x1, .int x2, .int x3] (v.toList ++ []) w' Q)) :
    px_W E mX10_grip (d + 3) 0 0 22 [.ref 61, .int x1, .int x2, .int x3] [] w Q := by
  refine px_iload_n dX10_grip_22 rfl rfl ?_
  refine px_bipush dX10_grip_23 bp_30 ?_
  refine px_icmp_gt (tgt := 58) dX10_grip_25 (by decide) (fun h1 => ?_) (fun h1 => ?_)
  ·
    refine px_iconst dX10_grip_58 ic_m1 ?_
    exact px_ireturn dX10_grip_59 rfl rfl (k1 h1)
  ·
    refine px_aload_n dX10_grip_28 rfl rfl ?_
    exact px_callV (As := []) (st := []) (rc := 0) (rs := 0) (mc := 0) (ms := 0) dX10_grip_29 lk_10_480 (px_sh1 hw sh_61) rfl rfl (Nat.le_of_ble_eq_true rfl) (k2 h1)
theorem bX10_grip_32 {E : px_E} {d : Nat} {w : pw_W} {Q : Option Value → pw_W → Prop} {t : ct_T} (hw : w.1 = cs t) {x1 x2 x3 : Int32}  (j1 : Nat) (hj1 : x1 = nI j1) (hl1 : j1 < 15)
    (k1 : px_Call E (d + 2) 0 0 mX10_isPeace [.ref 61, .int (js_shl 1 x1), .int x2] (pw_sI w 90 j1 x3) (fun v w' => px_W E mX10_grip (d + 3) 0 0 47 [.ref 61, .int x1, .int x2, .int x3] (v.toList ++ []) w' Q)) :
    px_W E mX10_grip (d + 3) 0 0 32 [.ref 61, .int x1, .int x2, .int x3] [] w Q := by
  refine px_aload_n dX10_grip_32 rfl rfl ?_
  refine px_getR (v := 90) dX10_grip_33 fr_10_102 rfl (px_sh1 hw sh_61) (px_rf hw rf_61_61) (by decide) ?_
  refine px_iload_n dX10_grip_36 rfl rfl ?_
  refine px_iload_n dX10_grip_37 rfl rfl ?_
  refine px_iast dX10_grip_38 (px_sh2 hw sh_90) (by decide) j1 hj1 hl1 (by omega) ?_
  refine px_aload_n dX10_grip_39 rfl rfl ?_
  refine px_iconst dX10_grip_40 ic_1 ?_
  refine px_iload_n dX10_grip_41 rfl rfl ?_
  refine px_ishl dX10_grip_42 ?_
  refine px_iload_n dX10_grip_43 rfl rfl ?_
  exact px_callV (As := [.int (js_shl 1 x1), .int x2]) (st := []) (rc := 0) (rs := 0) (mc := 0) (ms := 0) dX10_grip_44 lk_10_513 (px_sh1 (hI hw) sh_61) rfl rfl (Nat.le_of_ble_eq_true rfl) k1
theorem bX10_grip_47 {E : px_E} {d : Nat} {w : pw_W} {Q : Option Value → pw_W → Prop} {t : ct_T} (hw : w.1 = cs t) {x1 x2 x3 y0 : Int32}  
    (k1 : y0 = 0 → px_W E mX10_grip (d + 3) 0 0 22 [.ref 61, .int x1, .int x2, .int (x3 + 1)] [] w Q)
    (k2 : ¬ y0 = 0 → Q (some (.int x3)) w) :
    px_W E mX10_grip (d + 3) 0 0 47 [.ref 61, .int x1, .int x2, .int x3] [.int y0] w Q := by
  refine px_if_eq (tgt := 52) dX10_grip_47 (by decide) (fun h1 => ?_) (fun h1 => ?_)
  ·
    refine px_iinc (ls' := [.ref 61, .int x1, .int x2, .int (x3 + 1)]) dX10_grip_52 ⟨by decide, rfl⟩ rfl rfl rfl ?_
    refine px_goto (tgt := 22) dX10_grip_55 (by decide) ?_
    exact (k1 h1)
  ·
    refine px_iload_n dX10_grip_50 rfl rfl ?_
    exact px_ireturn dX10_grip_51 rfl rfl (k2 h1)
theorem dX10_pupil_0 : decode mX10_pupil.2.1 0 = .ok (.iload_n 1, 1) := by decide +kernel
theorem dX10_pupil_1 : decode mX10_pupil.2.1 1 = .ok (.iconst 0, 1) := by decide +kernel
theorem dX10_pupil_2 : decode mX10_pupil.2.1 2 = .ok (.bipush 30, 2) := by decide +kernel
theorem dX10_pupil_4 : decode mX10_pupil.2.1 4 = .ok (.invokestatic 440, 3) := by decide +kernel
theorem dX10_pupil_7 : decode mX10_pupil.2.1 7 = .ok (.ifCond .eq 12, 3) := by decide +kernel
theorem dX10_pupil_10 : decode mX10_pupil.2.1 10 = .ok (.iload_n 2, 1) := by decide +kernel
theorem dX10_pupil_11 : decode mX10_pupil.2.1 11 = .ok (.iconst 0, 1) := by decide +kernel
theorem dX10_pupil_12 : decode mX10_pupil.2.1 12 = .ok (.iconst 1, 1) := by decide +kernel
theorem dX10_pupil_13 : decode mX10_pupil.2.1 13 = .ok (.invokestatic 440, 3) := by decide +kernel
theorem dX10_pupil_16 : decode mX10_pupil.2.1 16 = .ok (.ifCond .ne 5, 3) := by decide +kernel
theorem dX10_pupil_19 : decode mX10_pupil.2.1 19 = .ok (.iconst (-1), 1) := by decide +kernel
theorem dX10_pupil_20 : decode mX10_pupil.2.1 20 = .ok (.ireturn, 1) := by decide +kernel
theorem dX10_pupil_21 : decode mX10_pupil.2.1 21 = .ok (.iconst (-1), 1) := by decide +kernel
theorem dX10_pupil_22 : decode mX10_pupil.2.1 22 = .ok (.istore_n 3, 1) := by decide +kernel
theorem dX10_pupil_23 : decode mX10_pupil.2.1 23 = .ok (.ldc_w 526, 3) := by decide +kernel
theorem dX10_pupil_26 : decode mX10_pupil.2.1 26 = .ok (.istore 4, 2) := by decide +kernel
theorem dX10_pupil_28 : decode mX10_pupil.2.1 28 = .ok (.iconst 0, 1) := by decide +kernel
theorem dX10_pupil_29 : decode mX10_pupil.2.1 29 = .ok (.istore 5, 2) := by decide +kernel
theorem dX10_pupil_31 : decode mX10_pupil.2.1 31 = .ok (.iload 5, 2) := by decide +kernel
theorem dX10_pupil_33 : decode mX10_pupil.2.1 33 = .ok (.aload_n 0, 1) := by decide +kernel
theorem dX10_pupil_34 : decode mX10_pupil.2.1 34 = .ok (.getfield 404, 3) := by decide +kernel
theorem dX10_pupil_37 : decode mX10_pupil.2.1 37 = .ok (.if_icmp .ge 63, 3) := by decide +kernel
theorem dX10_pupil_40 : decode mX10_pupil.2.1 40 = .ok (.aload_n 0, 1) := by decide +kernel
theorem dX10_pupil_41 : decode mX10_pupil.2.1 41 = .ok (.getfield 99, 3) := by decide +kernel
theorem dX10_pupil_44 : decode mX10_pupil.2.1 44 = .ok (.iload 5, 2) := by decide +kernel
theorem dX10_pupil_46 : decode mX10_pupil.2.1 46 = .ok (.iaload, 1) := by decide +kernel
theorem dX10_pupil_47 : decode mX10_pupil.2.1 47 = .ok (.bipush 30, 2) := by decide +kernel
theorem dX10_pupil_49 : decode mX10_pupil.2.1 49 = .ok (.if_icmp .ne 6, 3) := by decide +kernel
theorem dX10_pupil_52 : decode mX10_pupil.2.1 52 = .ok (.goto 42, 3) := by decide +kernel
theorem dX10_pupil_55 : decode mX10_pupil.2.1 55 = .ok (.aload_n 0, 1) := by decide +kernel
theorem dX10_pupil_56 : decode mX10_pupil.2.1 56 = .ok (.invokevirtual 480, 3) := by decide +kernel
theorem dX10_pupil_59 : decode mX10_pupil.2.1 59 = .ok (.aload_n 0, 1) := by decide +kernel
theorem dX10_pupil_60 : decode mX10_pupil.2.1 60 = .ok (.getfield 102, 3) := by decide +kernel
theorem dX10_pupil_63 : decode mX10_pupil.2.1 63 = .ok (.iload 5, 2) := by decide +kernel
theorem dX10_pupil_65 : decode mX10_pupil.2.1 65 = .ok (.dup2, 1) := by decide +kernel
theorem dX10_pupil_66 : decode mX10_pupil.2.1 66 = .ok (.iaload, 1) := by decide +kernel
theorem dX10_pupil_67 : decode mX10_pupil.2.1 67 = .ok (.iconst 1, 1) := by decide +kernel
theorem dX10_pupil_68 : decode mX10_pupil.2.1 68 = .ok (.iadd, 1) := by decide +kernel
theorem dX10_pupil_69 : decode mX10_pupil.2.1 69 = .ok (.iastore, 1) := by decide +kernel
theorem dX10_pupil_70 : decode mX10_pupil.2.1 70 = .ok (.aload_n 0, 1) := by decide +kernel
theorem dX10_pupil_71 : decode mX10_pupil.2.1 71 = .ok (.iload_n 1, 1) := by decide +kernel
theorem dX10_pupil_72 : decode mX10_pupil.2.1 72 = .ok (.invokevirtual 507, 3) := by decide +kernel
theorem dX10_pupil_75 : decode mX10_pupil.2.1 75 = .ok (.istore 6, 2) := by decide +kernel
theorem dX10_pupil_77 : decode mX10_pupil.2.1 77 = .ok (.iload 6, 2) := by decide +kernel
theorem dX10_pupil_79 : decode mX10_pupil.2.1 79 = .ok (.iload 4, 2) := by decide +kernel
theorem dX10_pupil_81 : decode mX10_pupil.2.1 81 = .ok (.if_icmp .lt 6, 3) := by decide +kernel
theorem dX10_pupil_84 : decode mX10_pupil.2.1 84 = .ok (.goto 10, 3) := by decide +kernel
theorem dX10_pupil_87 : decode mX10_pupil.2.1 87 = .ok (.iload 5, 2) := by decide +kernel
theorem dX10_pupil_89 : decode mX10_pupil.2.1 89 = .ok (.istore_n 3, 1) := by decide +kernel
theorem dX10_pupil_90 : decode mX10_pupil.2.1 90 = .ok (.iload 6, 2) := by decide +kernel
theorem dX10_pupil_92 : decode mX10_pupil.2.1 92 = .ok (.istore 4, 2) := by decide +kernel
theorem dX10_pupil_94 : decode mX10_pupil.2.1 94 = .ok (.iinc 5 1, 3) := by decide +kernel
theorem dX10_pupil_97 : decode mX10_pupil.2.1 97 = .ok (.goto (-66), 3) := by decide +kernel
theorem dX10_pupil_100 : decode mX10_pupil.2.1 100 = .ok (.iload_n 3, 1) := by decide +kernel
theorem dX10_pupil_101 : decode mX10_pupil.2.1 101 = .ok (.ifCond .ge 7, 3) := by decide +kernel
theorem dX10_pupil_104 : decode mX10_pupil.2.1 104 = .ok (.iconst (-1), 1) := by decide +kernel
theorem dX10_pupil_105 : decode mX10_pupil.2.1 105 = .ok (.goto 13, 3) := by decide +kernel
theorem dX10_pupil_108 : decode mX10_pupil.2.1 108 = .ok (.iload_n 2, 1) := by decide +kernel
theorem dX10_pupil_109 : decode mX10_pupil.2.1 109 = .ok (.ifCond .ne 7, 3) := by decide +kernel
theorem dX10_pupil_112 : decode mX10_pupil.2.1 112 = .ok (.iload_n 3, 1) := by decide +kernel
theorem dX10_pupil_113 : decode mX10_pupil.2.1 113 = .ok (.goto 5, 3) := by decide +kernel
theorem dX10_pupil_116 : decode mX10_pupil.2.1 116 = .ok (.iload 4, 2) := by decide +kernel
theorem dX10_pupil_118 : decode mX10_pupil.2.1 118 = .ok (.ireturn, 1) := by decide +kernel
theorem bX10_pupil_0 {E : px_E} {d : Nat} {w : pw_W} {Q : Option Value → pw_W → Prop} {t : ct_T} (hw : w.1 = cs t) {x1 x2 : Int32}  
    (k1 : ¬ (pX10_isIn x1 0 30) → px_W E mX10_pupil (d + 2) 0 0 19 [.null, .null, .null, .null, .null, .null, .null] [] w Q)
    (k2 : (pX10_isIn x1 0 30) → (pX10_isIn x2 0 1) → px_W E mX10_pupil (d + 2) 0 0 31 [.ref 61, .int x1, .int x2, .int (-1), .int 1000000, .int 0, .null] [] w Q)
    (k3 : (pX10_isIn x1 0 30) → ¬ (pX10_isIn x2 0 1) → px_W E mX10_pupil (d + 2) 0 0 19 [.null, .null, .null, .null, .null, .null, .null] [] w Q) :
    px_W E mX10_pupil (d + 2) 0 0 0 [.ref 61, .int x1, .int x2, .null, .null, .null, .null] [] w Q := by
  refine px_iload_n dX10_pupil_0 rfl rfl ?_
  refine px_iconst dX10_pupil_1 ic_0 ?_
  refine px_bipush dX10_pupil_2 bp_30 ?_
  refine px_callS (As := [.int x1, .int 0, .int 30]) (st := []) (rc := 0) (rs := 0) (mc := 0) (ms := 0) dX10_pupil_4 lk_10_440 rfl rfl (Nat.le_of_ble_eq_true rfl) (sX10_isIn ?_)
  show px_W E mX10_pupil (d + 2) 0 0 7 [.ref 61, .int x1, .int x2, .null, .null, .null, .null] [.int (jb (pX10_isIn x1 0 30))] w Q
  refine px_jb_eq (tgt := 19) dX10_pupil_7 (by decide) (fun h1 => ?_) (fun h1 => ?_)
  ·
    exact px_forget (k1 h1) ⟨Or.inl rfl, Or.inl rfl, Or.inl rfl, Or.inl rfl, Or.inl rfl, Or.inl rfl, Or.inl rfl, trivial⟩
  ·
    refine px_iload_n dX10_pupil_10 rfl rfl ?_
    refine px_iconst dX10_pupil_11 ic_0 ?_
    refine px_iconst dX10_pupil_12 ic_1 ?_
    refine px_callS (As := [.int x2, .int 0, .int 1]) (st := []) (rc := 0) (rs := 0) (mc := 0) (ms := 0) dX10_pupil_13 lk_10_440 rfl rfl (Nat.le_of_ble_eq_true rfl) (sX10_isIn ?_)
    show px_W E mX10_pupil (d + 2) 0 0 16 [.ref 61, .int x1, .int x2, .null, .null, .null, .null] [.int (jb (pX10_isIn x2 0 1))] w Q
    refine px_jb_ne (tgt := 21) dX10_pupil_16 (by decide) (fun h2 => ?_) (fun h2 => ?_)
    ·
      refine px_iconst dX10_pupil_21 ic_m1 ?_
      refine px_istore_n (ls' := [.ref 61, .int x1, .int x2, .int (-1), .null, .null, .null]) dX10_pupil_22 rfl ⟨by decide, rfl⟩ rfl ?_
      refine px_ldcw dX10_pupil_23 (px_in8 117 rfl rfl) ?_
      refine px_istore (ls' := [.ref 61, .int x1, .int x2, .int (-1), .int 1000000, .null, .null]) dX10_pupil_26 ⟨by decide, rfl⟩ rfl ?_
      refine px_iconst dX10_pupil_28 ic_0 ?_
      refine px_istore (ls' := [.ref 61, .int x1, .int x2, .int (-1), .int 1000000, .int 0, .null]) dX10_pupil_29 ⟨by decide, rfl⟩ rfl ?_
      exact (k2 h1 h2)
    ·
      exact px_forget (k3 h1 h2) ⟨Or.inl rfl, Or.inl rfl, Or.inl rfl, Or.inl rfl, Or.inl rfl, Or.inl rfl, Or.inl rfl, trivial⟩
theorem eX10_pupil {E : px_E} {d : Nat} {w : pw_W} {Q : Option Value → pw_W → Prop} {t : ct_T} (hw : w.1 = cs t) {x1 x2 : Int32}  
    (k1 : ¬ (pX10_isIn x1 0 30) → px_W E mX10_pupil (d + 2) 0 0 19 [.null, .null, .null, .null, .null, .null, .null] [] w Q)
    (k2 : (pX10_isIn x1 0 30) → (pX10_isIn x2 0 1) → px_W E mX10_pupil (d + 2) 0 0 31 [.ref 61, .int x1, .int x2, .int (-1), .int 1000000, .int 0, .null] [] w Q)
    (k3 : (pX10_isIn x1 0 30) → ¬ (pX10_isIn x2 0 1) → px_W E mX10_pupil (d + 2) 0 0 19 [.null, .null, .null, .null, .null, .null, .null] [] w Q) :
    px_Call E (d + 2) 0 0 mX10_pupil [.ref 61, .int x1, .int x2] w Q :=
  px_enter (k := 4) (by decide) (Nat.le_of_ble_eq_true rfl) rfl (px_forget (bX10_pupil_0 hw k1 k2 k3) ⟨Or.inr rfl, Or.inr rfl, Or.inr rfl, Or.inl rfl, Or.inl rfl, Or.inl rfl, Or.inl rfl, trivial⟩)
theorem bX10_pupil_19 {E : px_E} {d : Nat} {w : pw_W} {Q : Option Value → pw_W → Prop} {t : ct_T} (hw : w.1 = cs t)  
    (k1 : Q (some (.int (-1))) w) :
    px_W E mX10_pupil (d + 2) 0 0 19 [.null, .null, .null, .null, .null, .null, .null] [] w Q := by
  refine px_iconst dX10_pupil_19 ic_m1 ?_
  exact px_ireturn dX10_pupil_20 rfl rfl k1
theorem bX10_pupil_31 {E : px_E} {d : Nat} {w : pw_W} {Q : Option Value → pw_W → Prop} {t : ct_T} (hw : w.1 = cs t) {x1 x2 x3 x4 x5 : Int32}  
    (k1 : (pw_I w 61 51) ≤ x5 → 0 ≤ x3 → ¬ x2 = 0 → px_W E mX10_pupil (d + 2) 0 0 118 [.null, .null, .null, .null, .null, .null, .null] [.int x4] w Q)
    (k2 : (pw_I w 61 51) ≤ x5 → 0 ≤ x3 → x2 = 0 → px_W E mX10_pupil (d + 2) 0 0 118 [.null, .null, .null, .null, .null, .null, .null] [.int x3] w Q)
    (k3 : (pw_I w 61 51) ≤ x5 → ¬ 0 ≤ x3 → px_W E mX10_pupil (d + 2) 0 0 118 [.null, .null, .null, .null, .null, .null, .null] [.int (-1)] w Q)
    (k4 : ¬ (pw_I w 61 51) ≤ x5 → px_W E mX10_pupil (d + 2) 0 0 40 [.ref 61, .int x1, .int x2, .int x3, .int x4, .int x5, .null] [] w Q) :
    px_W E mX10_pupil (d + 2) 0 0 31 [.ref 61, .int x1, .int x2, .int x3, .int x4, .int x5, .null] [] w Q := by
  refine px_iload dX10_pupil_31 rfl ?_
  refine px_aload_n dX10_pupil_33 rfl rfl ?_
  refine px_getI dX10_pupil_34 fr_10_404 rfl (px_sh1 hw sh_61) ?_
  refine px_icmp_ge (tgt := 100) dX10_pupil_37 (by decide) (fun h1 => ?_) (fun h1 => ?_)
  ·
    refine px_iload_n dX10_pupil_100 rfl rfl ?_
    refine px_if_ge (tgt := 108) dX10_pupil_101 (by decide) (fun h2 => ?_) (fun h2 => ?_)
    ·
      refine px_iload_n dX10_pupil_108 rfl rfl ?_
      refine px_if_ne (tgt := 116) dX10_pupil_109 (by decide) (fun h3 => ?_) (fun h3 => ?_)
      ·
        refine px_iload dX10_pupil_116 rfl ?_
        exact px_forget (k1 h1 h2 h3) ⟨Or.inl rfl, Or.inl rfl, Or.inl rfl, Or.inl rfl, Or.inl rfl, Or.inl rfl, Or.inl rfl, trivial⟩
      ·
        refine px_iload_n dX10_pupil_112 rfl rfl ?_
        refine px_goto (tgt := 118) dX10_pupil_113 (by decide) ?_
        exact px_forget (k2 h1 h2 h3) ⟨Or.inl rfl, Or.inl rfl, Or.inl rfl, Or.inl rfl, Or.inl rfl, Or.inl rfl, Or.inl rfl, trivial⟩
    ·
      refine px_iconst dX10_pupil_104 ic_m1 ?_
      refine px_goto (tgt := 118) dX10_pupil_105 (by decide) ?_
      exact px_forget (k3 h1 h2) ⟨Or.inl rfl, Or.inl rfl, Or.inl rfl, Or.inl rfl, Or.inl rfl, Or.inl rfl, Or.inl rfl, trivial⟩
  ·
    exact (k4 h1)
theorem bX10_pupil_40 {E : px_E} {d : Nat} {w : pw_W} {Q : Option Value → pw_W → Prop} {t : ct_T} (hw : w.1 = cs t) {x1 x2 x3 x4 x5 : Int32}  (j1 : Nat) (hj1 : x5 = nI j1) (hl1 : j1 < 15)
    (k1 : ¬ (pw_I w 89 j1) = 30 → px_Call E (d + 1) 0 0 mX10_fill [.ref 61] w (fun v w' => px_W E mX10_pupil (d + 2) 0 0 59 [.ref 61, .int x1, .int x2, .int x3, .int x4, .int x5, .null] (v.toList ++ []) w' Q))
    (k2 : (pw_I w 89 j1) = 30 → px_W E mX10_pupil (d + 2) 0 0 94 [.ref 61, .int x1, .int x2, .int x3, .int x4, .int x5, .null] [] w Q) :
    px_W E mX10_pupil (d + 2) 0 0 40 [.ref 61, .int x1, .int x2, .int x3, .int x4, .int x5, .null] [] w Q := by
  refine px_aload_n dX10_pupil_40 rfl rfl ?_
  refine px_getR (v := 89) dX10_pupil_41 fr_10_99 rfl (px_sh1 hw sh_61) (px_rf hw rf_61_60) (by decide) ?_
  refine px_iload dX10_pupil_44 rfl ?_
  refine px_iald dX10_pupil_46 (px_sh2 hw sh_89) (by decide) j1 hj1 hl1 ?_
  refine px_bipush dX10_pupil_47 bp_30 ?_
  refine px_icmp_ne (tgt := 55) dX10_pupil_49 (by decide) (fun h1 => ?_) (fun h1 => ?_)
  ·
    refine px_aload_n dX10_pupil_55 rfl rfl ?_
    exact px_callV (As := []) (st := []) (rc := 0) (rs := 0) (mc := 0) (ms := 0) dX10_pupil_56 lk_10_480 (px_sh1 hw sh_61) rfl rfl (Nat.le_of_ble_eq_true rfl) (k1 h1)
  ·
    refine px_goto (tgt := 94) dX10_pupil_52 (by decide) ?_
    exact (k2 h1)
theorem bX10_pupil_59 {E : px_E} {d : Nat} {w : pw_W} {Q : Option Value → pw_W → Prop} {t : ct_T} (hw : w.1 = cs t) {x1 x2 x3 x4 x5 : Int32}  (j1 : Nat) (hj1 : x5 = nI j1) (hl1 : j1 < 15)
    (k1 : px_Call E (d + 1) 0 0 mX10_hurtBehind [.ref 61, .int x1] (pw_sI w 90 j1 ((pw_I w 90 j1) + 1)) (fun v w' => px_W E mX10_pupil (d + 2) 0 0 75 [.ref 61, .int x1, .int x2, .int x3, .int x4, .int x5, .null] (v.toList ++ []) w' Q)) :
    px_W E mX10_pupil (d + 2) 0 0 59 [.ref 61, .int x1, .int x2, .int x3, .int x4, .int x5, .null] [] w Q := by
  refine px_aload_n dX10_pupil_59 rfl rfl ?_
  refine px_getR (v := 90) dX10_pupil_60 fr_10_102 rfl (px_sh1 hw sh_61) (px_rf hw rf_61_61) (by decide) ?_
  refine px_iload dX10_pupil_63 rfl ?_
  refine px_dup2 dX10_pupil_65 rfl rfl ?_
  refine px_iald dX10_pupil_66 (px_sh2 hw sh_90) (by decide) j1 hj1 hl1 ?_
  refine px_iconst dX10_pupil_67 ic_1 ?_
  refine px_iadd dX10_pupil_68 ?_
  refine px_iast dX10_pupil_69 (px_sh2 hw sh_90) (by decide) j1 hj1 hl1 (by omega) ?_
  refine px_aload_n dX10_pupil_70 rfl rfl ?_
  refine px_iload_n dX10_pupil_71 rfl rfl ?_
  exact px_callV (As := [.int x1]) (st := []) (rc := 0) (rs := 0) (mc := 0) (ms := 0) dX10_pupil_72 lk_10_507 (px_sh1 (hI hw) sh_61) rfl rfl (Nat.le_of_ble_eq_true rfl) k1
theorem bX10_pupil_75 {E : px_E} {d : Nat} {w : pw_W} {Q : Option Value → pw_W → Prop} {t : ct_T} (hw : w.1 = cs t) {x1 x2 x3 x4 x5 y0 : Int32}  
    (k1 : y0 < x4 → px_W E mX10_pupil (d + 2) 0 0 94 [.ref 61, .int x1, .int x2, .int x5, .int y0, .int x5, .null] [] w Q)
    (k2 : ¬ y0 < x4 → px_W E mX10_pupil (d + 2) 0 0 94 [.ref 61, .int x1, .int x2, .int x3, .int x4, .int x5, .null] [] w Q) :
    px_W E mX10_pupil (d + 2) 0 0 75 [.ref 61, .int x1, .int x2, .int x3, .int x4, .int x5, .null] [.int y0] w Q := by
  refine px_istore (ls' := [.ref 61, .int x1, .int x2, .int x3, .int x4, .int x5, .int y0]) dX10_pupil_75 ⟨by decide, rfl⟩ rfl ?_
  refine px_iload dX10_pupil_77 rfl ?_
  refine px_iload dX10_pupil_79 rfl ?_
  refine px_icmp_lt (tgt := 87) dX10_pupil_81 (by decide) (fun h1 => ?_) (fun h1 => ?_)
  ·
    refine px_iload dX10_pupil_87 rfl ?_
    refine px_istore_n (ls' := [.ref 61, .int x1, .int x2, .int x5, .int x4, .int x5, .int y0]) dX10_pupil_89 rfl ⟨by decide, rfl⟩ rfl ?_
    refine px_iload dX10_pupil_90 rfl ?_
    refine px_istore (ls' := [.ref 61, .int x1, .int x2, .int x5, .int y0, .int x5, .int y0]) dX10_pupil_92 ⟨by decide, rfl⟩ rfl ?_
    exact px_forget (k1 h1) ⟨Or.inr rfl, Or.inr rfl, Or.inr rfl, Or.inr rfl, Or.inr rfl, Or.inr rfl, Or.inl rfl, trivial⟩
  ·
    refine px_goto (tgt := 94) dX10_pupil_84 (by decide) ?_
    exact px_forget (k2 h1) ⟨Or.inr rfl, Or.inr rfl, Or.inr rfl, Or.inr rfl, Or.inr rfl, Or.inr rfl, Or.inl rfl, trivial⟩
theorem bX10_pupil_94 {E : px_E} {d : Nat} {w : pw_W} {Q : Option Value → pw_W → Prop} {t : ct_T} (hw : w.1 = cs t) {x1 x2 x3 x4 x5 : Int32}  
    (k1 : px_W E mX10_pupil (d + 2) 0 0 31 [.ref 61, .int x1, .int x2, .int x3, .int x4, .int (x5 + 1), .null] [] w Q) :
    px_W E mX10_pupil (d + 2) 0 0 94 [.ref 61, .int x1, .int x2, .int x3, .int x4, .int x5, .null] [] w Q := by
  refine px_iinc (ls' := [.ref 61, .int x1, .int x2, .int x3, .int x4, .int (x5 + 1), .null]) dX10_pupil_94 ⟨by decide, rfl⟩ rfl rfl rfl ?_
  refine px_goto (tgt := 31) dX10_pupil_97 (by decide) ?_
  exact k1
theorem bX10_pupil_118 {E : px_E} {d : Nat} {w : pw_W} {Q : Option Value → pw_W → Prop} {t : ct_T} (hw : w.1 = cs t) {y0 : Int32}  
    (k1 : Q (some (.int y0)) w) :
    px_W E mX10_pupil (d + 2) 0 0 118 [.null, .null, .null, .null, .null, .null, .null] [.int y0] w Q := by
  exact px_ireturn dX10_pupil_118 rfl rfl k1
theorem dX10_friendsOf_0 : decode mX10_friendsOf.2.1 0 = .ok (.iconst 0, 1) := by decide +kernel
theorem dX10_friendsOf_1 : decode mX10_friendsOf.2.1 1 = .ok (.istore_n 2, 1) := by decide +kernel
theorem dX10_friendsOf_2 : decode mX10_friendsOf.2.1 2 = .ok (.iconst 0, 1) := by decide +kernel
theorem dX10_friendsOf_3 : decode mX10_friendsOf.2.1 3 = .ok (.istore_n 3, 1) := by decide +kernel
theorem dX10_friendsOf_4 : decode mX10_friendsOf.2.1 4 = .ok (.iload_n 3, 1) := by decide +kernel
theorem dX10_friendsOf_5 : decode mX10_friendsOf.2.1 5 = .ok (.aload_n 0, 1) := by decide +kernel
theorem dX10_friendsOf_6 : decode mX10_friendsOf.2.1 6 = .ok (.getfield 407, 3) := by decide +kernel
theorem dX10_friendsOf_9 : decode mX10_friendsOf.2.1 9 = .ok (.if_icmp .ge 76, 3) := by decide +kernel
theorem dX10_friendsOf_12 : decode mX10_friendsOf.2.1 12 = .ok (.aload_n 0, 1) := by decide +kernel
theorem dX10_friendsOf_13 : decode mX10_friendsOf.2.1 13 = .ok (.iload_n 3, 1) := by decide +kernel
theorem dX10_friendsOf_14 : decode mX10_friendsOf.2.1 14 = .ok (.invokevirtual 498, 3) := by decide +kernel
theorem dX10_friendsOf_17 : decode mX10_friendsOf.2.1 17 = .ok (.ifCond .eq 6, 3) := by decide +kernel
theorem dX10_friendsOf_20 : decode mX10_friendsOf.2.1 20 = .ok (.goto 59, 3) := by decide +kernel
theorem dX10_friendsOf_23 : decode mX10_friendsOf.2.1 23 = .ok (.iload_n 2, 1) := by decide +kernel
theorem dX10_friendsOf_24 : decode mX10_friendsOf.2.1 24 = .ok (.aload_n 0, 1) := by decide +kernel
theorem dX10_friendsOf_25 : decode mX10_friendsOf.2.1 25 = .ok (.getfield 78, 3) := by decide +kernel
theorem dX10_friendsOf_28 : decode mX10_friendsOf.2.1 28 = .ok (.iload_n 3, 1) := by decide +kernel
theorem dX10_friendsOf_29 : decode mX10_friendsOf.2.1 29 = .ok (.iaload, 1) := by decide +kernel
theorem dX10_friendsOf_30 : decode mX10_friendsOf.2.1 30 = .ok (.iload_n 1, 1) := by decide +kernel
theorem dX10_friendsOf_31 : decode mX10_friendsOf.2.1 31 = .ok (.if_icmp .ne 7, 3) := by decide +kernel
theorem dX10_friendsOf_34 : decode mX10_friendsOf.2.1 34 = .ok (.iconst 1, 1) := by decide +kernel
theorem dX10_friendsOf_35 : decode mX10_friendsOf.2.1 35 = .ok (.goto 4, 3) := by decide +kernel
theorem dX10_friendsOf_38 : decode mX10_friendsOf.2.1 38 = .ok (.iconst 0, 1) := by decide +kernel
theorem dX10_friendsOf_39 : decode mX10_friendsOf.2.1 39 = .ok (.invokestatic 332, 3) := by decide +kernel
theorem dX10_friendsOf_42 : decode mX10_friendsOf.2.1 42 = .ok (.aload_n 0, 1) := by decide +kernel
theorem dX10_friendsOf_43 : decode mX10_friendsOf.2.1 43 = .ok (.getfield 81, 3) := by decide +kernel
theorem dX10_friendsOf_46 : decode mX10_friendsOf.2.1 46 = .ok (.iload_n 3, 1) := by decide +kernel
theorem dX10_friendsOf_47 : decode mX10_friendsOf.2.1 47 = .ok (.iaload, 1) := by decide +kernel
theorem dX10_friendsOf_48 : decode mX10_friendsOf.2.1 48 = .ok (.ishl, 1) := by decide +kernel
theorem dX10_friendsOf_49 : decode mX10_friendsOf.2.1 49 = .ok (.ior, 1) := by decide +kernel
theorem dX10_friendsOf_50 : decode mX10_friendsOf.2.1 50 = .ok (.istore_n 2, 1) := by decide +kernel
theorem dX10_friendsOf_51 : decode mX10_friendsOf.2.1 51 = .ok (.iload_n 2, 1) := by decide +kernel
theorem dX10_friendsOf_52 : decode mX10_friendsOf.2.1 52 = .ok (.aload_n 0, 1) := by decide +kernel
theorem dX10_friendsOf_53 : decode mX10_friendsOf.2.1 53 = .ok (.getfield 81, 3) := by decide +kernel
theorem dX10_friendsOf_56 : decode mX10_friendsOf.2.1 56 = .ok (.iload_n 3, 1) := by decide +kernel
theorem dX10_friendsOf_57 : decode mX10_friendsOf.2.1 57 = .ok (.iaload, 1) := by decide +kernel
theorem dX10_friendsOf_58 : decode mX10_friendsOf.2.1 58 = .ok (.iload_n 1, 1) := by decide +kernel
theorem dX10_friendsOf_59 : decode mX10_friendsOf.2.1 59 = .ok (.if_icmp .ne 7, 3) := by decide +kernel
theorem dX10_friendsOf_62 : decode mX10_friendsOf.2.1 62 = .ok (.iconst 1, 1) := by decide +kernel
theorem dX10_friendsOf_63 : decode mX10_friendsOf.2.1 63 = .ok (.goto 4, 3) := by decide +kernel
theorem dX10_friendsOf_66 : decode mX10_friendsOf.2.1 66 = .ok (.iconst 0, 1) := by decide +kernel
theorem dX10_friendsOf_67 : decode mX10_friendsOf.2.1 67 = .ok (.invokestatic 332, 3) := by decide +kernel
theorem dX10_friendsOf_70 : decode mX10_friendsOf.2.1 70 = .ok (.aload_n 0, 1) := by decide +kernel
theorem dX10_friendsOf_71 : decode mX10_friendsOf.2.1 71 = .ok (.getfield 78, 3) := by decide +kernel
theorem dX10_friendsOf_74 : decode mX10_friendsOf.2.1 74 = .ok (.iload_n 3, 1) := by decide +kernel
theorem dX10_friendsOf_75 : decode mX10_friendsOf.2.1 75 = .ok (.iaload, 1) := by decide +kernel
theorem dX10_friendsOf_76 : decode mX10_friendsOf.2.1 76 = .ok (.ishl, 1) := by decide +kernel
theorem dX10_friendsOf_77 : decode mX10_friendsOf.2.1 77 = .ok (.ior, 1) := by decide +kernel
theorem dX10_friendsOf_78 : decode mX10_friendsOf.2.1 78 = .ok (.istore_n 2, 1) := by decide +kernel
theorem dX10_friendsOf_79 : decode mX10_friendsOf.2.1 79 = .ok (.iinc 3 1, 3) := by decide +kernel
theorem dX10_friendsOf_82 : decode mX10_friendsOf.2.1 82 = .ok (.goto (-78), 3) := by decide +kernel
theorem dX10_friendsOf_85 : decode mX10_friendsOf.2.1 85 = .ok (.iload_n 2, 1) := by decide +kernel
theorem dX10_friendsOf_86 : decode mX10_friendsOf.2.1 86 = .ok (.ireturn, 1) := by decide +kernel
theorem bX10_friendsOf_0 {E : px_E} {d : Nat} {w : pw_W} {Q : Option Value → pw_W → Prop} {t : ct_T} (hw : w.1 = cs t) {x1 : Int32}  
    (k1 : px_W E mX10_friendsOf (d + 2) 0 0 4 [.ref 61, .int x1, .int 0, .int 0] [] w Q) :
    px_W E mX10_friendsOf (d + 2) 0 0 0 [.ref 61, .int x1, .null, .null] [] w Q := by
  refine px_iconst dX10_friendsOf_0 ic_0 ?_
  refine px_istore_n (ls' := [.ref 61, .int x1, .int 0, .null]) dX10_friendsOf_1 rfl ⟨by decide, rfl⟩ rfl ?_
  refine px_iconst dX10_friendsOf_2 ic_0 ?_
  refine px_istore_n (ls' := [.ref 61, .int x1, .int 0, .int 0]) dX10_friendsOf_3 rfl ⟨by decide, rfl⟩ rfl ?_
  exact k1
theorem eX10_friendsOf {E : px_E} {d : Nat} {w : pw_W} {Q : Option Value → pw_W → Prop} {t : ct_T} (hw : w.1 = cs t) {x1 : Int32}  
    (k1 : px_W E mX10_friendsOf (d + 2) 0 0 4 [.ref 61, .int x1, .int 0, .int 0] [] w Q) :
    px_Call E (d + 2) 0 0 mX10_friendsOf [.ref 61, .int x1] w Q :=
  px_enter (k := 2) (by decide) (Nat.le_of_ble_eq_true rfl) rfl (px_forget (bX10_friendsOf_0 hw k1) ⟨Or.inr rfl, Or.inr rfl, Or.inl rfl, Or.inl rfl, trivial⟩)
theorem bX10_friendsOf_4 {E : px_E} {d : Nat} {w : pw_W} {Q : Option Value → pw_W → Prop} {t : ct_T} (hw : w.1 = cs t) {x1 x2 x3 : Int32}  
    (k1 : (pw_I w 61 52) ≤ x3 → Q (some (.int x2)) w)
    (k2 : ¬ (pw_I w 61 52) ≤ x3 → ¬ (pX10_isBannedNow w x3) → px_W E mX10_friendsOf (d + 2) 0 0 23 [.ref 61, .int x1, .int x2, .int x3] [] w Q)
    (k3 : ¬ (pw_I w 61 52) ≤ x3 → (pX10_isBannedNow w x3) → px_W E mX10_friendsOf (d + 2) 0 0 79 [.ref 61, .int x1, .int x2, .int x3] [] w Q) :
    px_W E mX10_friendsOf (d + 2) 0 0 4 [.ref 61, .int x1, .int x2, .int x3] [] w Q := by
  refine px_iload_n dX10_friendsOf_4 rfl rfl ?_
  refine px_aload_n dX10_friendsOf_5 rfl rfl ?_
  refine px_getI dX10_friendsOf_6 fr_10_407 rfl (px_sh1 hw sh_61) ?_
  refine px_icmp_ge (tgt := 85) dX10_friendsOf_9 (by decide) (fun h1 => ?_) (fun h1 => ?_)
  ·
    refine px_iload_n dX10_friendsOf_85 rfl rfl ?_
    exact px_ireturn dX10_friendsOf_86 rfl rfl (k1 h1)
  ·
    refine px_aload_n dX10_friendsOf_12 rfl rfl ?_
    refine px_iload_n dX10_friendsOf_13 rfl rfl ?_
    refine px_callV (As := [.int x3]) (st := []) (rc := 0) (rs := 0) (mc := 0) (ms := 0) dX10_friendsOf_14 lk_10_498 (px_sh1 hw sh_61) rfl rfl (Nat.le_of_ble_eq_true rfl) (sX10_isBannedNow (w := w) hw ?_)
    show px_W E mX10_friendsOf (d + 2) 0 0 17 [.ref 61, .int x1, .int x2, .int x3] [.int (jb (pX10_isBannedNow w x3))] w Q
    refine px_jb_eq (tgt := 23) dX10_friendsOf_17 (by decide) (fun h2 => ?_) (fun h2 => ?_)
    ·
      exact (k2 h1 h2)
    ·
      refine px_goto (tgt := 79) dX10_friendsOf_20 (by decide) ?_
      exact (k3 h1 h2)
theorem bX10_friendsOf_23 {E : px_E} {d : Nat} {w : pw_W} {Q : Option Value → pw_W → Prop} {t : ct_T} (hw : w.1 = cs t) {x1 x2 x3 : Int32}  (j1 : Nat) (hj1 : x3 = nI j1) (hl1 : j1 < 9)
    (k1 : ¬ (pw_I w 83 j1) = x1 → px_W E mX10_friendsOf (d + 2) 0 0 39 [.ref 61, .int x1, .null, .int x3] [.int 0, .int x2] w Q)
    (k2 : (pw_I w 83 j1) = x1 → px_W E mX10_friendsOf (d + 2) 0 0 39 [.ref 61, .int x1, .null, .int x3] [.int 1, .int x2] w Q) :
    px_W E mX10_friendsOf (d + 2) 0 0 23 [.ref 61, .int x1, .int x2, .int x3] [] w Q := by
  refine px_iload_n dX10_friendsOf_23 rfl rfl ?_
  refine px_aload_n dX10_friendsOf_24 rfl rfl ?_
  refine px_getR (v := 83) dX10_friendsOf_25 fr_10_78 rfl (px_sh1 hw sh_61) (px_rf hw rf_61_39) (by decide) ?_
  refine px_iload_n dX10_friendsOf_28 rfl rfl ?_
  refine px_iald dX10_friendsOf_29 (px_sh2 hw sh_83) (by decide) j1 hj1 hl1 ?_
  refine px_iload_n dX10_friendsOf_30 rfl rfl ?_
  refine px_icmp_ne (tgt := 38) dX10_friendsOf_31 (by decide) (fun h1 => ?_) (fun h1 => ?_)
  ·
    refine px_iconst dX10_friendsOf_38 ic_0 ?_
    exact px_forget (k1 h1) ⟨Or.inr rfl, Or.inr rfl, Or.inl rfl, Or.inr rfl, trivial⟩
  ·
    refine px_iconst dX10_friendsOf_34 ic_1 ?_
    refine px_goto (tgt := 39) dX10_friendsOf_35 (by decide) ?_
    exact px_forget (k2 h1) ⟨Or.inr rfl, Or.inr rfl, Or.inl rfl, Or.inr rfl, trivial⟩
theorem bX10_friendsOf_39 {E : px_E} {d : Nat} {w : pw_W} {Q : Option Value → pw_W → Prop} {t : ct_T} (hw : w.1 = cs t) {x1 x3 y0 y1 : Int32}  (j1 : Nat) (hj1 : x3 = nI j1) (hl1 : j1 < 9)
    (k1 : ¬ (pw_I w 84 j1) = x1 → px_W E mX10_friendsOf (d + 2) 0 0 67 [.ref 61, .int x1, .null, .int x3] [.int 0, .int (y0 ||| (js_shl (hX10_truth y1) (pw_I w 84 j1)))] w Q)
    (k2 : (pw_I w 84 j1) = x1 → px_W E mX10_friendsOf (d + 2) 0 0 67 [.ref 61, .int x1, .null, .int x3] [.int 1, .int (y0 ||| (js_shl (hX10_truth y1) (pw_I w 84 j1)))] w Q) :
    px_W E mX10_friendsOf (d + 2) 0 0 39 [.ref 61, .int x1, .null, .int x3] [.int y1, .int y0] w Q := by
  refine px_callS (As := [.int y1]) (st := [.int y0]) (rc := 0) (rs := 0) (mc := 0) (ms := 0) dX10_friendsOf_39 lk_10_332 rfl rfl (Nat.le_of_ble_eq_true rfl) (sX10_truth ?_)
  show px_W E mX10_friendsOf (d + 2) 0 0 42 [.ref 61, .int x1, .null, .int x3] [.int (hX10_truth y1), .int y0] w Q
  refine px_aload_n dX10_friendsOf_42 rfl rfl ?_
  refine px_getR (v := 84) dX10_friendsOf_43 fr_10_81 rfl (px_sh1 hw sh_61) (px_rf hw rf_61_40) (by decide) ?_
  refine px_iload_n dX10_friendsOf_46 rfl rfl ?_
  refine px_iald dX10_friendsOf_47 (px_sh2 hw sh_84) (by decide) j1 hj1 hl1 ?_
  refine px_ishl dX10_friendsOf_48 ?_
  refine px_ior dX10_friendsOf_49 ?_
  refine px_istore_n (ls' := [.ref 61, .int x1, .int (y0 ||| (js_shl (hX10_truth y1) (pw_I w 84 j1))), .int x3]) dX10_friendsOf_50 rfl ⟨by decide, rfl⟩ rfl ?_
  refine px_iload_n dX10_friendsOf_51 rfl rfl ?_
  refine px_aload_n dX10_friendsOf_52 rfl rfl ?_
  refine px_getR (v := 84) dX10_friendsOf_53 fr_10_81 rfl (px_sh1 hw sh_61) (px_rf hw rf_61_40) (by decide) ?_
  refine px_iload_n dX10_friendsOf_56 rfl rfl ?_
  refine px_iald dX10_friendsOf_57 (px_sh2 hw sh_84) (by decide) j1 hj1 hl1 ?_
  refine px_iload_n dX10_friendsOf_58 rfl rfl ?_
  refine px_icmp_ne (tgt := 66) dX10_friendsOf_59 (by decide) (fun h1 => ?_) (fun h1 => ?_)
  ·
    refine px_iconst dX10_friendsOf_66 ic_0 ?_
    exact px_forget (k1 h1) ⟨Or.inr rfl, Or.inr rfl, Or.inl rfl, Or.inr rfl, trivial⟩
  ·
    refine px_iconst dX10_friendsOf_62 ic_1 ?_
    refine px_goto (tgt := 67) dX10_friendsOf_63 (by decide) ?_
    exact px_forget (k2 h1) ⟨Or.inr rfl, Or.inr rfl, Or.inl rfl, Or.inr rfl, trivial⟩
theorem bX10_friendsOf_67 {E : px_E} {d : Nat} {w : pw_W} {Q : Option Value → pw_W → Prop} {t : ct_T} (hw : w.1 = cs t) {x1 x3 y0 y1 : Int32}  (j1 : Nat) (hj1 : x3 = nI j1) (hl1 : j1 < 9)
    (k1 : px_W E mX10_friendsOf (d + 2) 0 0 79 [.ref 61, .int x1, .int (y0 ||| (js_shl (hX10_truth y1) (pw_I w 83 j1))), .int x3] [] w Q) :
    px_W E mX10_friendsOf (d + 2) 0 0 67 [.ref 61, .int x1, .null, .int x3] [.int y1, .int y0] w Q := by
  refine px_callS (As := [.int y1]) (st := [.int y0]) (rc := 0) (rs := 0) (mc := 0) (ms := 0) dX10_friendsOf_67 lk_10_332 rfl rfl (Nat.le_of_ble_eq_true rfl) (sX10_truth ?_)
  show px_W E mX10_friendsOf (d + 2) 0 0 70 [.ref 61, .int x1, .null, .int x3] [.int (hX10_truth y1), .int y0] w Q
  refine px_aload_n dX10_friendsOf_70 rfl rfl ?_
  refine px_getR (v := 83) dX10_friendsOf_71 fr_10_78 rfl (px_sh1 hw sh_61) (px_rf hw rf_61_39) (by decide) ?_
  refine px_iload_n dX10_friendsOf_74 rfl rfl ?_
  refine px_iald dX10_friendsOf_75 (px_sh2 hw sh_83) (by decide) j1 hj1 hl1 ?_
  refine px_ishl dX10_friendsOf_76 ?_
  refine px_ior dX10_friendsOf_77 ?_
  refine px_istore_n (ls' := [.ref 61, .int x1, .int (y0 ||| (js_shl (hX10_truth y1) (pw_I w 83 j1))), .int x3]) dX10_friendsOf_78 rfl ⟨by decide, rfl⟩ rfl ?_
  exact k1
theorem bX10_friendsOf_79 {E : px_E} {d : Nat} {w : pw_W} {Q : Option Value → pw_W → Prop} {t : ct_T} (hw : w.1 = cs t) {x1 x2 x3 : Int32}  
    (k1 : px_W E mX10_friendsOf (d + 2) 0 0 4 [.ref 61, .int x1, .int x2, .int (x3 + 1)] [] w Q) :
    px_W E mX10_friendsOf (d + 2) 0 0 79 [.ref 61, .int x1, .int x2, .int x3] [] w Q := by
  refine px_iinc (ls' := [.ref 61, .int x1, .int x2, .int (x3 + 1)]) dX10_friendsOf_79 ⟨by decide, rfl⟩ rfl rfl rfl ?_
  refine px_goto (tgt := 4) dX10_friendsOf_82 (by decide) ?_
  exact k1
theorem dX10_friends_0 : decode mX10_friends.2.1 0 = .ok (.aload_n 0, 1) := by decide +kernel
theorem dX10_friends_1 : decode mX10_friends.2.1 1 = .ok (.iload_n 1, 1) := by decide +kernel
theorem dX10_friends_2 : decode mX10_friends.2.1 2 = .ok (.invokevirtual 477, 3) := by decide +kernel
theorem dX10_friends_5 : decode mX10_friends.2.1 5 = .ok (.ifCond .eq 11, 3) := by decide +kernel
theorem dX10_friends_8 : decode mX10_friends.2.1 8 = .ok (.aload_n 0, 1) := by decide +kernel
theorem dX10_friends_9 : decode mX10_friends.2.1 9 = .ok (.iload_n 1, 1) := by decide +kernel
theorem dX10_friends_10 : decode mX10_friends.2.1 10 = .ok (.invokevirtual 530, 3) := by decide +kernel
theorem dX10_friends_13 : decode mX10_friends.2.1 13 = .ok (.goto 4, 3) := by decide +kernel
theorem dX10_friends_16 : decode mX10_friends.2.1 16 = .ok (.iconst (-1), 1) := by decide +kernel
theorem dX10_friends_17 : decode mX10_friends.2.1 17 = .ok (.ireturn, 1) := by decide +kernel
theorem bX10_friends_0 {E : px_E} {d : Nat} {w : pw_W} {Q : Option Value → pw_W → Prop} {t : ct_T} (hw : w.1 = cs t) {x1 : Int32}  
    (k1 : ¬ (pX10_isPerson w x1) → px_W E mX10_friends (d + 3) 0 0 17 [.null, .null] [.int (-1)] w Q)
    (k2 : (pX10_isPerson w x1) → px_Call E (d + 2) 0 0 mX10_friendsOf [.ref 61, .int x1] w (fun v w' => px_W E mX10_friends (d + 3) 0 0 13 [.null, .null] (v.toList ++ []) w' Q)) :
    px_W E mX10_friends (d + 3) 0 0 0 [.ref 61, .int x1] [] w Q := by
  refine px_aload_n dX10_friends_0 rfl rfl ?_
  refine px_iload_n dX10_friends_1 rfl rfl ?_
  refine px_callV (As := [.int x1]) (st := []) (rc := 0) (rs := 0) (mc := 0) (ms := 0) dX10_friends_2 lk_10_477 (px_sh1 hw sh_61) rfl rfl (Nat.le_of_ble_eq_true rfl) (sX10_isPerson (w := w) hw ?_)
  show px_W E mX10_friends (d + 3) 0 0 5 [.ref 61, .int x1] [.int (jb (pX10_isPerson w x1))] w Q
  refine px_jb_eq (tgt := 16) dX10_friends_5 (by decide) (fun h1 => ?_) (fun h1 => ?_)
  ·
    refine px_iconst dX10_friends_16 ic_m1 ?_
    exact px_forget (k1 h1) ⟨Or.inl rfl, Or.inl rfl, trivial⟩
  ·
    refine px_aload_n dX10_friends_8 rfl rfl ?_
    refine px_iload_n dX10_friends_9 rfl rfl ?_
    refine px_forget (ls' := [.null, .null]) ?_ ⟨Or.inl rfl, Or.inl rfl, trivial⟩
    exact px_callV (As := [.int x1]) (st := []) (rc := 0) (rs := 0) (mc := 0) (ms := 0) dX10_friends_10 lk_10_530 (px_sh1 hw sh_61) rfl rfl (Nat.le_of_ble_eq_true rfl) (k2 h1)
theorem eX10_friends {E : px_E} {d : Nat} {w : pw_W} {Q : Option Value → pw_W → Prop} {t : ct_T} (hw : w.1 = cs t) {x1 : Int32}  
    (k1 : ¬ (pX10_isPerson w x1) → px_W E mX10_friends (d + 3) 0 0 17 [.null, .null] [.int (-1)] w Q)
    (k2 : (pX10_isPerson w x1) → px_Call E (d + 2) 0 0 mX10_friendsOf [.ref 61, .int x1] w (fun v w' => px_W E mX10_friends (d + 3) 0 0 13 [.null, .null] (v.toList ++ []) w' Q)) :
    px_Call E (d + 3) 0 0 mX10_friends [.ref 61, .int x1] w Q :=
  px_enter (k := 0) (by decide) (Nat.le_of_ble_eq_true rfl) rfl (px_forget (bX10_friends_0 hw k1 k2) ⟨Or.inr rfl, Or.inr rfl, trivial⟩)
theorem bX10_friends_13 {E : px_E} {d : Nat} {w : pw_W} {Q : Option Value → pw_W → Prop} {t : ct_T} (hw : w.1 = cs t) {y0 : Int32}  
    (k1 : px_W E mX10_friends (d + 3) 0 0 17 [.null, .null] [.int y0] w Q) :
    px_W E mX10_friends (d + 3) 0 0 13 [.null, .null] [.int y0] w Q := by
  refine px_goto (tgt := 17) dX10_friends_13 (by decide) ?_
  exact k1
theorem bX10_friends_17 {E : px_E} {d : Nat} {w : pw_W} {Q : Option Value → pw_W → Prop} {t : ct_T} (hw : w.1 = cs t) {y0 : Int32}  
    (k1 : Q (some (.int y0)) w) :
    px_W E mX10_friends (d + 3) 0 0 17 [.null, .null] [.int y0] w Q := by
  exact px_ireturn dX10_friends_17 rfl rfl k1
theorem dX10_power_0 : decode mX10_power.2.1 0 = .ok (.iconst 1, 1) := by decide +kernel
theorem dX10_power_1 : decode mX10_power.2.1 1 = .ok (.istore_n 2, 1) := by decide +kernel
theorem dX10_power_2 : decode mX10_power.2.1 2 = .ok (.iconst 0, 1) := by decide +kernel
theorem dX10_power_3 : decode mX10_power.2.1 3 = .ok (.istore_n 3, 1) := by decide +kernel
theorem dX10_power_4 : decode mX10_power.2.1 4 = .ok (.iload_n 3, 1) := by decide +kernel
theorem dX10_power_5 : decode mX10_power.2.1 5 = .ok (.iload_n 1, 1) := by decide +kernel
theorem dX10_power_6 : decode mX10_power.2.1 6 = .ok (.if_icmp .ge 13, 3) := by decide +kernel
theorem dX10_power_9 : decode mX10_power.2.1 9 = .ok (.iload_n 2, 1) := by decide +kernel
theorem dX10_power_10 : decode mX10_power.2.1 10 = .ok (.iload_n 0, 1) := by decide +kernel
theorem dX10_power_11 : decode mX10_power.2.1 11 = .ok (.imul, 1) := by decide +kernel
theorem dX10_power_12 : decode mX10_power.2.1 12 = .ok (.istore_n 2, 1) := by decide +kernel
theorem dX10_power_13 : decode mX10_power.2.1 13 = .ok (.iinc 3 1, 3) := by decide +kernel
theorem dX10_power_16 : decode mX10_power.2.1 16 = .ok (.goto (-12), 3) := by decide +kernel
theorem dX10_power_19 : decode mX10_power.2.1 19 = .ok (.iload_n 2, 1) := by decide +kernel
theorem dX10_power_20 : decode mX10_power.2.1 20 = .ok (.ireturn, 1) := by decide +kernel
theorem bX10_power_0 {E : px_E} {d : Nat} {w : pw_W} {Q : Option Value → pw_W → Prop} {x0 x1 : Int32}  
    (k1 : px_W E mX10_power (d + 1) 0 0 4 [.int x0, .int x1, .int 1, .int 0] [] w Q) :
    px_W E mX10_power (d + 1) 0 0 0 [.int x0, .int x1, .null, .null] [] w Q := by
  refine px_iconst dX10_power_0 ic_1 ?_
  refine px_istore_n (ls' := [.int x0, .int x1, .int 1, .null]) dX10_power_1 rfl ⟨by decide, rfl⟩ rfl ?_
  refine px_iconst dX10_power_2 ic_0 ?_
  refine px_istore_n (ls' := [.int x0, .int x1, .int 1, .int 0]) dX10_power_3 rfl ⟨by decide, rfl⟩ rfl ?_
  exact k1
theorem eX10_power {E : px_E} {d : Nat} {w : pw_W} {Q : Option Value → pw_W → Prop} {x0 x1 : Int32}  
    (k1 : px_W E mX10_power (d + 1) 0 0 4 [.int x0, .int x1, .int 1, .int 0] [] w Q) :
    px_Call E (d + 1) 0 0 mX10_power [.int x0, .int x1] w Q :=
  px_enter (k := 2) (by decide) (Nat.le_of_ble_eq_true rfl) rfl (px_forget (bX10_power_0 k1) ⟨Or.inr rfl, Or.inr rfl, Or.inl rfl, Or.inl rfl, trivial⟩)
theorem bX10_power_4 {E : px_E} {d : Nat} {w : pw_W} {Q : Option Value → pw_W → Prop} {x0 x1 x2 x3 : Int32}  
    (k1 : x1 ≤ x3 → Q (some (.int x2)) w)
    (k2 : ¬ x1 ≤ x3 → px_W E mX10_power (d + 1) 0 0 4 [.int x0, .int x1, .int (x2 * x0), .int (x3 + 1)] [] w Q) :
    px_W E mX10_power (d + 1) 0 0 4 [.int x0, .int x1, .int x2, .int x3] [] w Q := by
  refine px_iload_n dX10_power_4 rfl rfl ?_
  refine px_iload_n dX10_power_5 rfl rfl ?_
  refine px_icmp_ge (tgt := 19) dX10_power_6 (by decide) (fun h1 => ?_) (fun h1 => ?_)
  ·
    refine px_iload_n dX10_power_19 rfl rfl ?_
    exact px_ireturn dX10_power_20 rfl rfl (k1 h1)
  ·
    refine px_iload_n dX10_power_9 rfl rfl ?_
    refine px_iload_n dX10_power_10 rfl rfl ?_
    refine px_imul dX10_power_11 ?_
    refine px_istore_n (ls' := [.int x0, .int x1, .int (x2 * x0), .int x3]) dX10_power_12 rfl ⟨by decide, rfl⟩ rfl ?_
    refine px_iinc (ls' := [.int x0, .int x1, .int (x2 * x0), .int (x3 + 1)]) dX10_power_13 ⟨by decide, rfl⟩ rfl rfl rfl ?_
    refine px_goto (tgt := 4) dX10_power_16 (by decide) ?_
    exact (k2 h1)
theorem dX10_layGroups_0 : decode mX10_layGroups.2.1 0 = .ok (.iload_n 1, 1) := by decide +kernel
theorem dX10_layGroups_1 : decode mX10_layGroups.2.1 1 = .ok (.istore_n 3, 1) := by decide +kernel
theorem dX10_layGroups_2 : decode mX10_layGroups.2.1 2 = .ok (.aload_n 0, 1) := by decide +kernel
theorem dX10_layGroups_3 : decode mX10_layGroups.2.1 3 = .ok (.getfield 404, 3) := by decide +kernel
theorem dX10_layGroups_6 : decode mX10_layGroups.2.1 6 = .ok (.iconst 1, 1) := by decide +kernel
theorem dX10_layGroups_7 : decode mX10_layGroups.2.1 7 = .ok (.isub, 1) := by decide +kernel
theorem dX10_layGroups_8 : decode mX10_layGroups.2.1 8 = .ok (.istore 4, 2) := by decide +kernel
theorem dX10_layGroups_10 : decode mX10_layGroups.2.1 10 = .ok (.iload 4, 2) := by decide +kernel
theorem dX10_layGroups_12 : decode mX10_layGroups.2.1 12 = .ok (.ifCond .lt 23, 3) := by decide +kernel
theorem dX10_layGroups_15 : decode mX10_layGroups.2.1 15 = .ok (.aload_n 0, 1) := by decide +kernel
theorem dX10_layGroups_16 : decode mX10_layGroups.2.1 16 = .ok (.getfield 111, 3) := by decide +kernel
theorem dX10_layGroups_19 : decode mX10_layGroups.2.1 19 = .ok (.iload 4, 2) := by decide +kernel
theorem dX10_layGroups_21 : decode mX10_layGroups.2.1 21 = .ok (.iload_n 3, 1) := by decide +kernel
theorem dX10_layGroups_22 : decode mX10_layGroups.2.1 22 = .ok (.iload_n 2, 1) := by decide +kernel
theorem dX10_layGroups_23 : decode mX10_layGroups.2.1 23 = .ok (.irem, 1) := by decide +kernel
theorem dX10_layGroups_24 : decode mX10_layGroups.2.1 24 = .ok (.iastore, 1) := by decide +kernel
theorem dX10_layGroups_25 : decode mX10_layGroups.2.1 25 = .ok (.iload_n 3, 1) := by decide +kernel
theorem dX10_layGroups_26 : decode mX10_layGroups.2.1 26 = .ok (.iload_n 2, 1) := by decide +kernel
theorem dX10_layGroups_27 : decode mX10_layGroups.2.1 27 = .ok (.idiv, 1) := by decide +kernel
theorem dX10_layGroups_28 : decode mX10_layGroups.2.1 28 = .ok (.istore_n 3, 1) := by decide +kernel
theorem dX10_layGroups_29 : decode mX10_layGroups.2.1 29 = .ok (.iinc 4 (-1), 3) := by decide +kernel
theorem dX10_layGroups_32 : decode mX10_layGroups.2.1 32 = .ok (.goto (-22), 3) := by decide +kernel
theorem dX10_layGroups_35 : decode mX10_layGroups.2.1 35 = .ok (.iconst 1, 1) := by decide +kernel
theorem dX10_layGroups_36 : decode mX10_layGroups.2.1 36 = .ok (.istore 4, 2) := by decide +kernel
theorem dX10_layGroups_38 : decode mX10_layGroups.2.1 38 = .ok (.iconst 0, 1) := by decide +kernel
theorem dX10_layGroups_39 : decode mX10_layGroups.2.1 39 = .ok (.istore 5, 2) := by decide +kernel
theorem dX10_layGroups_41 : decode mX10_layGroups.2.1 41 = .ok (.iload 5, 2) := by decide +kernel
theorem dX10_layGroups_43 : decode mX10_layGroups.2.1 43 = .ok (.aload_n 0, 1) := by decide +kernel
theorem dX10_layGroups_44 : decode mX10_layGroups.2.1 44 = .ok (.getfield 407, 3) := by decide +kernel
theorem dX10_layGroups_47 : decode mX10_layGroups.2.1 47 = .ok (.if_icmp .ge 57, 3) := by decide +kernel
theorem dX10_layGroups_50 : decode mX10_layGroups.2.1 50 = .ok (.iload 4, 2) := by decide +kernel
theorem dX10_layGroups_52 : decode mX10_layGroups.2.1 52 = .ok (.ifCond .eq 43, 3) := by decide +kernel
theorem dX10_layGroups_55 : decode mX10_layGroups.2.1 55 = .ok (.aload_n 0, 1) := by decide +kernel
theorem dX10_layGroups_56 : decode mX10_layGroups.2.1 56 = .ok (.iload 5, 2) := by decide +kernel
theorem dX10_layGroups_58 : decode mX10_layGroups.2.1 58 = .ok (.invokevirtual 498, 3) := by decide +kernel
theorem dX10_layGroups_61 : decode mX10_layGroups.2.1 61 = .ok (.ifCond .ne 30, 3) := by decide +kernel
theorem dX10_layGroups_64 : decode mX10_layGroups.2.1 64 = .ok (.aload_n 0, 1) := by decide +kernel
theorem dX10_layGroups_65 : decode mX10_layGroups.2.1 65 = .ok (.getfield 111, 3) := by decide +kernel
theorem dX10_layGroups_68 : decode mX10_layGroups.2.1 68 = .ok (.aload_n 0, 1) := by decide +kernel
theorem dX10_layGroups_69 : decode mX10_layGroups.2.1 69 = .ok (.getfield 78, 3) := by decide +kernel
theorem dX10_layGroups_72 : decode mX10_layGroups.2.1 72 = .ok (.iload 5, 2) := by decide +kernel
theorem dX10_layGroups_74 : decode mX10_layGroups.2.1 74 = .ok (.iaload, 1) := by decide +kernel
theorem dX10_layGroups_75 : decode mX10_layGroups.2.1 75 = .ok (.iaload, 1) := by decide +kernel
theorem dX10_layGroups_76 : decode mX10_layGroups.2.1 76 = .ok (.aload_n 0, 1) := by decide +kernel
theorem dX10_layGroups_77 : decode mX10_layGroups.2.1 77 = .ok (.getfield 111, 3) := by decide +kernel
theorem dX10_layGroups_80 : decode mX10_layGroups.2.1 80 = .ok (.aload_n 0, 1) := by decide +kernel
theorem dX10_layGroups_81 : decode mX10_layGroups.2.1 81 = .ok (.getfield 81, 3) := by decide +kernel
theorem dX10_layGroups_84 : decode mX10_layGroups.2.1 84 = .ok (.iload 5, 2) := by decide +kernel
theorem dX10_layGroups_86 : decode mX10_layGroups.2.1 86 = .ok (.iaload, 1) := by decide +kernel
theorem dX10_layGroups_87 : decode mX10_layGroups.2.1 87 = .ok (.iaload, 1) := by decide +kernel
theorem dX10_layGroups_88 : decode mX10_layGroups.2.1 88 = .ok (.if_icmp .eq 7, 3) := by decide +kernel
theorem dX10_layGroups_91 : decode mX10_layGroups.2.1 91 = .ok (.iconst 1, 1) := by decide +kernel
theorem dX10_layGroups_92 : decode mX10_layGroups.2.1 92 = .ok (.goto 4, 3) := by decide +kernel
theorem dX10_layGroups_95 : decode mX10_layGroups.2.1 95 = .ok (.iconst 0, 1) := by decide +kernel
theorem dX10_layGroups_96 : decode mX10_layGroups.2.1 96 = .ok (.istore 4, 2) := by decide +kernel
theorem dX10_layGroups_98 : decode mX10_layGroups.2.1 98 = .ok (.iinc 5 1, 3) := by decide +kernel
theorem dX10_layGroups_101 : decode mX10_layGroups.2.1 101 = .ok (.goto (-60), 3) := by decide +kernel
theorem dX10_layGroups_104 : decode mX10_layGroups.2.1 104 = .ok (.iload 4, 2) := by decide +kernel
theorem dX10_layGroups_106 : decode mX10_layGroups.2.1 106 = .ok (.ireturn, 1) := by decide +kernel
theorem bX10_layGroups_0 {E : px_E} {d : Nat} {w : pw_W} {Q : Option Value → pw_W → Prop} {t : ct_T} (hw : w.1 = cs t) {x1 x2 : Int32}  
    (k1 : px_W E mX10_layGroups (d + 2) 0 0 10 [.ref 61, .null, .int x2, .int x1, .int ((pw_I w 61 51) - 1), .null] [] w Q) :
    px_W E mX10_layGroups (d + 2) 0 0 0 [.ref 61, .int x1, .int x2, .null, .null, .null] [] w Q := by
  refine px_iload_n dX10_layGroups_0 rfl rfl ?_
  refine px_istore_n (ls' := [.ref 61, .int x1, .int x2, .int x1, .null, .null]) dX10_layGroups_1 rfl ⟨by decide, rfl⟩ rfl ?_
  refine px_aload_n dX10_layGroups_2 rfl rfl ?_
  refine px_getI dX10_layGroups_3 fr_10_404 rfl (px_sh1 hw sh_61) ?_
  refine px_iconst dX10_layGroups_6 ic_1 ?_
  refine px_isub dX10_layGroups_7 ?_
  refine px_istore (ls' := [.ref 61, .int x1, .int x2, .int x1, .int ((pw_I w 61 51) - 1), .null]) dX10_layGroups_8 ⟨by decide, rfl⟩ rfl ?_
  exact px_forget k1 ⟨Or.inr rfl, Or.inl rfl, Or.inr rfl, Or.inr rfl, Or.inr rfl, Or.inl rfl, trivial⟩
theorem eX10_layGroups {E : px_E} {d : Nat} {w : pw_W} {Q : Option Value → pw_W → Prop} {t : ct_T} (hw : w.1 = cs t) {x1 x2 : Int32}  
    (k1 : px_W E mX10_layGroups (d + 2) 0 0 10 [.ref 61, .null, .int x2, .int x1, .int ((pw_I w 61 51) - 1), .null] [] w Q) :
    px_Call E (d + 2) 0 0 mX10_layGroups [.ref 61, .int x1, .int x2] w Q :=
  px_enter (k := 3) (by decide) (Nat.le_of_ble_eq_true rfl) rfl (px_forget (bX10_layGroups_0 hw k1) ⟨Or.inr rfl, Or.inr rfl, Or.inr rfl, Or.inl rfl, Or.inl rfl, Or.inl rfl, trivial⟩)
theorem bX10_layGroups_10 {E : px_E} {d : Nat} {w : pw_W} {Q : Option Value → pw_W → Prop} {t : ct_T} (hw : w.1 = cs t) {x2 x3 x4 : Int32}  
    (k1 : x4 < 0 → px_W E mX10_layGroups (d + 2) 0 0 41 [.ref 61, .null, .null, .null, .int 1, .int 0] [] w Q)
    (k2 : ¬ x4 < 0 → px_W E mX10_layGroups (d + 2) 0 0 15 [.ref 61, .null, .int x2, .int x3, .int x4, .null] [] w Q) :
    px_W E mX10_layGroups (d + 2) 0 0 10 [.ref 61, .null, .int x2, .int x3, .int x4, .null] [] w Q := by
  refine px_iload dX10_layGroups_10 rfl ?_
  refine px_if_lt (tgt := 35) dX10_layGroups_12 (by decide) (fun h1 => ?_) (fun h1 => ?_)
  ·
    refine px_iconst dX10_layGroups_35 ic_1 ?_
    refine px_istore (ls' := [.ref 61, .null, .int x2, .int x3, .int 1, .null]) dX10_layGroups_36 ⟨by decide, rfl⟩ rfl ?_
    refine px_iconst dX10_layGroups_38 ic_0 ?_
    refine px_istore (ls' := [.ref 61, .null, .int x2, .int x3, .int 1, .int 0]) dX10_layGroups_39 ⟨by decide, rfl⟩ rfl ?_
    exact px_forget (k1 h1) ⟨Or.inr rfl, Or.inl rfl, Or.inl rfl, Or.inl rfl, Or.inr rfl, Or.inr rfl, trivial⟩
  ·
    exact (k2 h1)
theorem bX10_layGroups_15 {E : px_E} {d : Nat} {w : pw_W} {Q : Option Value → pw_W → Prop} {t : ct_T} (hw : w.1 = cs t) {x2 x3 x4 : Int32}  (hz1 : ¬ x2 = 0) (j1 : Nat) (hj1 : x4 = nI j1) (hl1 : j1 < 6) (hz3 : ¬ x2 = 0)
    (k1 : px_W E mX10_layGroups (d + 2) 0 0 10 [.ref 61, .null, .int x2, .int (x3 / x2), .int (x4 + (-1)), .null] [] (pw_sI w 93 j1 (js_rem x3 x2)) Q) :
    px_W E mX10_layGroups (d + 2) 0 0 15 [.ref 61, .null, .int x2, .int x3, .int x4, .null] [] w Q := by
  refine px_aload_n dX10_layGroups_15 rfl rfl ?_
  refine px_getR (v := 93) dX10_layGroups_16 fr_10_111 rfl (px_sh1 hw sh_61) (px_rf hw rf_61_66) (by decide) ?_
  refine px_iload dX10_layGroups_19 rfl ?_
  refine px_iload_n dX10_layGroups_21 rfl rfl ?_
  refine px_iload_n dX10_layGroups_22 rfl rfl ?_
  refine px_irem dX10_layGroups_23 hz1 ?_
  refine px_iast dX10_layGroups_24 (px_sh2 hw sh_93) (by decide) j1 hj1 hl1 (by omega) ?_
  refine px_iload_n dX10_layGroups_25 rfl rfl ?_
  refine px_iload_n dX10_layGroups_26 rfl rfl ?_
  refine px_idiv dX10_layGroups_27 hz3 ?_
  refine px_istore_n (ls' := [.ref 61, .null, .int x2, .int (x3 / x2), .int x4, .null]) dX10_layGroups_28 rfl ⟨by decide, rfl⟩ rfl ?_
  refine px_iinc (ls' := [.ref 61, .null, .int x2, .int (x3 / x2), .int (x4 + (-1)), .null]) dX10_layGroups_29 ⟨by decide, rfl⟩ rfl rfl rfl ?_
  refine px_goto (tgt := 10) dX10_layGroups_32 (by decide) ?_
  exact k1
theorem bX10_layGroups_41 {E : px_E} {d : Nat} {w : pw_W} {Q : Option Value → pw_W → Prop} {t : ct_T} (hw : w.1 = cs t) {x4 x5 : Int32}  (hb1 : (pw_I w 61 52) ≤ x5 → x4 = 0 ∨ x4 = 1)
    (k1 : (pw_I w 61 52) ≤ x5 → Q (some (.int x4)) w)
    (k2 : ¬ (pw_I w 61 52) ≤ x5 → x4 = 0 → px_W E mX10_layGroups (d + 2) 0 0 95 [.ref 61, .null, .null, .null, .null, .int x5] [] w Q)
    (k3 : ¬ (pw_I w 61 52) ≤ x5 → ¬ x4 = 0 → (pX10_isBannedNow w x5) → px_W E mX10_layGroups (d + 2) 0 0 91 [.ref 61, .null, .null, .null, .null, .int x5] [] w Q)
    (k4 : ¬ (pw_I w 61 52) ≤ x5 → ¬ x4 = 0 → ¬ (pX10_isBannedNow w x5) → px_W E mX10_layGroups (d + 2) 0 0 64 [.ref 61, .null, .null, .null, .null, .int x5] [] w Q) :
    px_W E mX10_layGroups (d + 2) 0 0 41 [.ref 61, .null, .null, .null, .int x4, .int x5] [] w Q := by
  refine px_iload dX10_layGroups_41 rfl ?_
  refine px_aload_n dX10_layGroups_43 rfl rfl ?_
  refine px_getI dX10_layGroups_44 fr_10_407 rfl (px_sh1 hw sh_61) ?_
  refine px_icmp_ge (tgt := 104) dX10_layGroups_47 (by decide) (fun h1 => ?_) (fun h1 => ?_)
  ·
    refine px_iload dX10_layGroups_104 rfl ?_
    exact px_ireturn dX10_layGroups_106 rfl (px_nb (hb1 h1)) (k1 h1)
  ·
    refine px_iload dX10_layGroups_50 rfl ?_
    refine px_if_eq (tgt := 95) dX10_layGroups_52 (by decide) (fun h2 => ?_) (fun h2 => ?_)
    ·
      exact px_forget (k2 h1 h2) ⟨Or.inr rfl, Or.inl rfl, Or.inl rfl, Or.inl rfl, Or.inl rfl, Or.inr rfl, trivial⟩
    ·
      refine px_aload_n dX10_layGroups_55 rfl rfl ?_
      refine px_iload dX10_layGroups_56 rfl ?_
      refine px_forget (ls' := [.ref 61, .null, .null, .null, .null, .int x5]) ?_ ⟨Or.inr rfl, Or.inl rfl, Or.inl rfl, Or.inl rfl, Or.inl rfl, Or.inr rfl, trivial⟩
      refine px_callV (As := [.int x5]) (st := []) (rc := 0) (rs := 0) (mc := 0) (ms := 0) dX10_layGroups_58 lk_10_498 (px_sh1 hw sh_61) rfl rfl (Nat.le_of_ble_eq_true rfl) (sX10_isBannedNow (w := w) hw ?_)
      show px_W E mX10_layGroups (d + 2) 0 0 61 [.ref 61, .null, .null, .null, .null, .int x5] [.int (jb (pX10_isBannedNow w x5))] w Q
      refine px_jb_ne (tgt := 91) dX10_layGroups_61 (by decide) (fun h3 => ?_) (fun h3 => ?_)
      ·
        exact (k3 h1 h2 h3)
      ·
        exact (k4 h1 h2 h3)
theorem bX10_layGroups_64 {E : px_E} {d : Nat} {w : pw_W} {Q : Option Value → pw_W → Prop} {t : ct_T} (hw : w.1 = cs t) {x5 : Int32}  (j1 : Nat) (hj1 : x5 = nI j1) (hl1 : j1 < 9) (j2 : Nat) (hj2 : (pw_I w 83 j1) = nI j2) (hl2 : j2 < 6) (j3 : Nat) (hj3 : (pw_I w 84 j1) = nI j3) (hl3 : j3 < 6)
    (k1 : (pw_I w 93 j2) = (pw_I w 93 j3) → px_W E mX10_layGroups (d + 2) 0 0 95 [.ref 61, .null, .null, .null, .null, .int x5] [] w Q)
    (k2 : ¬ (pw_I w 93 j2) = (pw_I w 93 j3) → px_W E mX10_layGroups (d + 2) 0 0 91 [.ref 61, .null, .null, .null, .null, .int x5] [] w Q) :
    px_W E mX10_layGroups (d + 2) 0 0 64 [.ref 61, .null, .null, .null, .null, .int x5] [] w Q := by
  refine px_aload_n dX10_layGroups_64 rfl rfl ?_
  refine px_getR (v := 93) dX10_layGroups_65 fr_10_111 rfl (px_sh1 hw sh_61) (px_rf hw rf_61_66) (by decide) ?_
  refine px_aload_n dX10_layGroups_68 rfl rfl ?_
  refine px_getR (v := 83) dX10_layGroups_69 fr_10_78 rfl (px_sh1 hw sh_61) (px_rf hw rf_61_39) (by decide) ?_
  refine px_iload dX10_layGroups_72 rfl ?_
  refine px_iald dX10_layGroups_74 (px_sh2 hw sh_83) (by decide) j1 hj1 hl1 ?_
  refine px_iald dX10_layGroups_75 (px_sh2 hw sh_93) (by decide) j2 hj2 hl2 ?_
  refine px_aload_n dX10_layGroups_76 rfl rfl ?_
  refine px_getR (v := 93) dX10_layGroups_77 fr_10_111 rfl (px_sh1 hw sh_61) (px_rf hw rf_61_66) (by decide) ?_
  refine px_aload_n dX10_layGroups_80 rfl rfl ?_
  refine px_getR (v := 84) dX10_layGroups_81 fr_10_81 rfl (px_sh1 hw sh_61) (px_rf hw rf_61_40) (by decide) ?_
  refine px_iload dX10_layGroups_84 rfl ?_
  refine px_iald dX10_layGroups_86 (px_sh2 hw sh_84) (by decide) j1 hj1 hl1 ?_
  refine px_iald dX10_layGroups_87 (px_sh2 hw sh_93) (by decide) j3 hj3 hl3 ?_
  refine px_icmp_eq (tgt := 95) dX10_layGroups_88 (by decide) (fun h1 => ?_) (fun h1 => ?_)
  ·
    exact (k1 h1)
  ·
    exact (k2 h1)
theorem bX10_layGroups_91 {E : px_E} {d : Nat} {w : pw_W} {Q : Option Value → pw_W → Prop} {t : ct_T} (hw : w.1 = cs t) {x5 : Int32}  
    (k1 : px_W E mX10_layGroups (d + 2) 0 0 96 [.ref 61, .null, .null, .null, .null, .int x5] [.int 1] w Q) :
    px_W E mX10_layGroups (d + 2) 0 0 91 [.ref 61, .null, .null, .null, .null, .int x5] [] w Q := by
  refine px_iconst dX10_layGroups_91 ic_1 ?_
  refine px_goto (tgt := 96) dX10_layGroups_92 (by decide) ?_
  exact k1
theorem bX10_layGroups_95 {E : px_E} {d : Nat} {w : pw_W} {Q : Option Value → pw_W → Prop} {t : ct_T} (hw : w.1 = cs t) {x5 : Int32}  
    (k1 : px_W E mX10_layGroups (d + 2) 0 0 96 [.ref 61, .null, .null, .null, .null, .int x5] [.int 0] w Q) :
    px_W E mX10_layGroups (d + 2) 0 0 95 [.ref 61, .null, .null, .null, .null, .int x5] [] w Q := by
  refine px_iconst dX10_layGroups_95 ic_0 ?_
  exact k1
theorem bX10_layGroups_96 {E : px_E} {d : Nat} {w : pw_W} {Q : Option Value → pw_W → Prop} {t : ct_T} (hw : w.1 = cs t) {x5 y0 : Int32}  
    (k1 : px_W E mX10_layGroups (d + 2) 0 0 41 [.ref 61, .null, .null, .null, .int y0, .int (x5 + 1)] [] w Q) :
    px_W E mX10_layGroups (d + 2) 0 0 96 [.ref 61, .null, .null, .null, .null, .int x5] [.int y0] w Q := by
  refine px_istore (ls' := [.ref 61, .null, .null, .null, .int y0, .int x5]) dX10_layGroups_96 ⟨by decide, rfl⟩ rfl ?_
  refine px_iinc (ls' := [.ref 61, .null, .null, .null, .int y0, .int (x5 + 1)]) dX10_layGroups_98 ⟨by decide, rfl⟩ rfl rfl rfl ?_
  refine px_goto (tgt := 41) dX10_layGroups_101 (by decide) ?_
  exact k1
theorem dX10_findGroups_0 : decode mX10_findGroups.2.1 0 = .ok (.iconst 0, 1) := by decide +kernel
theorem dX10_findGroups_1 : decode mX10_findGroups.2.1 1 = .ok (.istore_n 2, 1) := by decide +kernel
theorem dX10_findGroups_2 : decode mX10_findGroups.2.1 2 = .ok (.iload_n 2, 1) := by decide +kernel
theorem dX10_findGroups_3 : decode mX10_findGroups.2.1 3 = .ok (.iload_n 1, 1) := by decide +kernel
theorem dX10_findGroups_4 : decode mX10_findGroups.2.1 4 = .ok (.aload_n 0, 1) := by decide +kernel
theorem dX10_findGroups_5 : decode mX10_findGroups.2.1 5 = .ok (.getfield 404, 3) := by decide +kernel
theorem dX10_findGroups_8 : decode mX10_findGroups.2.1 8 = .ok (.invokestatic 533, 3) := by decide +kernel
theorem dX10_findGroups_11 : decode mX10_findGroups.2.1 11 = .ok (.if_icmp .ge 20, 3) := by decide +kernel
theorem dX10_findGroups_14 : decode mX10_findGroups.2.1 14 = .ok (.aload_n 0, 1) := by decide +kernel
theorem dX10_findGroups_15 : decode mX10_findGroups.2.1 15 = .ok (.iload_n 2, 1) := by decide +kernel
theorem dX10_findGroups_16 : decode mX10_findGroups.2.1 16 = .ok (.iload_n 1, 1) := by decide +kernel
theorem dX10_findGroups_17 : decode mX10_findGroups.2.1 17 = .ok (.invokevirtual 536, 3) := by decide +kernel
theorem dX10_findGroups_20 : decode mX10_findGroups.2.1 20 = .ok (.ifCond .eq 5, 3) := by decide +kernel
theorem dX10_findGroups_23 : decode mX10_findGroups.2.1 23 = .ok (.iconst 1, 1) := by decide +kernel
theorem dX10_findGroups_24 : decode mX10_findGroups.2.1 24 = .ok (.ireturn, 1) := by decide +kernel
theorem dX10_findGroups_25 : decode mX10_findGroups.2.1 25 = .ok (.iinc 2 1, 3) := by decide +kernel
theorem dX10_findGroups_28 : decode mX10_findGroups.2.1 28 = .ok (.goto (-26), 3) := by decide +kernel
theorem dX10_findGroups_31 : decode mX10_findGroups.2.1 31 = .ok (.iconst 0, 1) := by decide +kernel
theorem dX10_findGroups_32 : decode mX10_findGroups.2.1 32 = .ok (.ireturn, 1) := by decide +kernel
theorem bX10_findGroups_0 {E : px_E} {d : Nat} {w : pw_W} {Q : Option Value → pw_W → Prop} {t : ct_T} (hw : w.1 = cs t) {x1 : Int32}  
    (k1 : px_W E mX10_findGroups (d + 1) 0 0 2 [.ref 61, .int x1, .int 0] [] w Q) :
    px_W E mX10_findGroups (d + 1) 0 0 0 [.ref 61, .int x1, .null] [] w Q := by
  refine px_iconst dX10_findGroups_0 ic_0 ?_
  refine px_istore_n (ls' := [.ref 61, .int x1, .int 0]) dX10_findGroups_1 rfl ⟨by decide, rfl⟩ rfl ?_
  exact k1
theorem eX10_findGroups {E : px_E} {d : Nat} {w : pw_W} {Q : Option Value → pw_W → Prop} {t : ct_T} (hw : w.1 = cs t) {x1 : Int32}  
    (k1 : px_W E mX10_findGroups (d + 1) 0 0 2 [.ref 61, .int x1, .int 0] [] w Q) :
    px_Call E (d + 1) 0 0 mX10_findGroups [.ref 61, .int x1] w Q :=
  px_enter (k := 1) (by decide) (Nat.le_of_ble_eq_true rfl) rfl (px_forget (bX10_findGroups_0 hw k1) ⟨Or.inr rfl, Or.inr rfl, Or.inl rfl, trivial⟩)
theorem bX10_findGroups_2 {E : px_E} {d : Nat} {w : pw_W} {Q : Option Value → pw_W → Prop} {t : ct_T} (hw : w.1 = cs t) {x1 x2 : Int32}  
    (k1 : px_Call E d 0 0 mX10_power [.int x1, .int (pw_I w 61 51)] w (fun v w' => px_W E mX10_findGroups (d + 1) 0 0 11 [.ref 61, .int x1, .int x2] (v.toList ++ [.int x2]) w' Q)) :
    px_W E mX10_findGroups (d + 1) 0 0 2 [.ref 61, .int x1, .int x2] [] w Q := by
  refine px_iload_n dX10_findGroups_2 rfl rfl ?_
  refine px_iload_n dX10_findGroups_3 rfl rfl ?_
  refine px_aload_n dX10_findGroups_4 rfl rfl ?_
  refine px_getI dX10_findGroups_5 fr_10_404 rfl (px_sh1 hw sh_61) ?_
  exact px_callS (As := [.int x1, .int (pw_I w 61 51)]) (st := [.int x2]) (rc := 0) (rs := 0) (mc := 0) (ms := 0) dX10_findGroups_8 lk_10_533 rfl rfl (Nat.le_of_ble_eq_true rfl) k1
theorem bX10_findGroups_11 {E : px_E} {d : Nat} {w : pw_W} {Q : Option Value → pw_W → Prop} {t : ct_T} (hw : w.1 = cs t) {x1 x2 y0 y1 : Int32}  
    (k1 : y1 ≤ y0 → Q (some (.int 0)) w)
    (k2 : ¬ y1 ≤ y0 → px_Call E d 0 0 mX10_layGroups [.ref 61, .int x2, .int x1] w (fun v w' => px_W E mX10_findGroups (d + 1) 0 0 20 [.ref 61, .int x1, .int x2] (v.toList ++ []) w' Q)) :
    px_W E mX10_findGroups (d + 1) 0 0 11 [.ref 61, .int x1, .int x2] [.int y1, .int y0] w Q := by
  refine px_icmp_ge (tgt := 31) dX10_findGroups_11 (by decide) (fun h1 => ?_) (fun h1 => ?_)
  ·
    refine px_iconst dX10_findGroups_31 ic_0 ?_
    exact px_ireturn dX10_findGroups_32 rfl (by decide) (k1 h1)
  ·
    refine px_aload_n dX10_findGroups_14 rfl rfl ?_
    refine px_iload_n dX10_findGroups_15 rfl rfl ?_
    refine px_iload_n dX10_findGroups_16 rfl rfl ?_
    exact px_callV (As := [.int x2, .int x1]) (st := []) (rc := 0) (rs := 0) (mc := 0) (ms := 0) dX10_findGroups_17 lk_10_536 (px_sh1 hw sh_61) rfl rfl (Nat.le_of_ble_eq_true rfl) (k2 h1)
theorem bX10_findGroups_20 {E : px_E} {d : Nat} {w : pw_W} {Q : Option Value → pw_W → Prop} {t : ct_T} (hw : w.1 = cs t) {x1 x2 y0 : Int32}  
    (k1 : y0 = 0 → px_W E mX10_findGroups (d + 1) 0 0 2 [.ref 61, .int x1, .int (x2 + 1)] [] w Q)
    (k2 : ¬ y0 = 0 → Q (some (.int 1)) w) :
    px_W E mX10_findGroups (d + 1) 0 0 20 [.ref 61, .int x1, .int x2] [.int y0] w Q := by
  refine px_if_eq (tgt := 25) dX10_findGroups_20 (by decide) (fun h1 => ?_) (fun h1 => ?_)
  ·
    refine px_iinc (ls' := [.ref 61, .int x1, .int (x2 + 1)]) dX10_findGroups_25 ⟨by decide, rfl⟩ rfl rfl rfl ?_
    refine px_goto (tgt := 2) dX10_findGroups_28 (by decide) ?_
    exact (k1 h1)
  ·
    refine px_iconst dX10_findGroups_23 ic_1 ?_
    exact px_ireturn dX10_findGroups_24 rfl (by decide) (k2 h1)
theorem dX10_evenings_0 : decode mX10_evenings.2.1 0 = .ok (.aload_n 0, 1) := by decide +kernel
theorem dX10_evenings_1 : decode mX10_evenings.2.1 1 = .ok (.aload_n 0, 1) := by decide +kernel
theorem dX10_evenings_2 : decode mX10_evenings.2.1 2 = .ok (.getfield 404, 3) := by decide +kernel
theorem dX10_evenings_5 : decode mX10_evenings.2.1 5 = .ok (.putfield 437, 3) := by decide +kernel
theorem dX10_evenings_8 : decode mX10_evenings.2.1 8 = .ok (.aload_n 0, 1) := by decide +kernel
theorem dX10_evenings_9 : decode mX10_evenings.2.1 9 = .ok (.getfield 404, 3) := by decide +kernel
theorem dX10_evenings_12 : decode mX10_evenings.2.1 12 = .ok (.ifCond .ne 5, 3) := by decide +kernel
theorem dX10_evenings_15 : decode mX10_evenings.2.1 15 = .ok (.iconst 0, 1) := by decide +kernel
theorem dX10_evenings_16 : decode mX10_evenings.2.1 16 = .ok (.ireturn, 1) := by decide +kernel
theorem dX10_evenings_17 : decode mX10_evenings.2.1 17 = .ok (.iconst 1, 1) := by decide +kernel
theorem dX10_evenings_18 : decode mX10_evenings.2.1 18 = .ok (.istore_n 1, 1) := by decide +kernel
theorem dX10_evenings_19 : decode mX10_evenings.2.1 19 = .ok (.aload_n 0, 1) := by decide +kernel
theorem dX10_evenings_20 : decode mX10_evenings.2.1 20 = .ok (.iload_n 1, 1) := by decide +kernel
theorem dX10_evenings_21 : decode mX10_evenings.2.1 21 = .ok (.invokevirtual 539, 3) := by decide +kernel
theorem dX10_evenings_24 : decode mX10_evenings.2.1 24 = .ok (.ifCond .ne 9, 3) := by decide +kernel
theorem dX10_evenings_27 : decode mX10_evenings.2.1 27 = .ok (.iinc 1 1, 3) := by decide +kernel
theorem dX10_evenings_30 : decode mX10_evenings.2.1 30 = .ok (.goto (-11), 3) := by decide +kernel
theorem dX10_evenings_33 : decode mX10_evenings.2.1 33 = .ok (.iconst 0, 1) := by decide +kernel
theorem dX10_evenings_34 : decode mX10_evenings.2.1 34 = .ok (.istore_n 2, 1) := by decide +kernel
theorem dX10_evenings_35 : decode mX10_evenings.2.1 35 = .ok (.iload_n 2, 1) := by decide +kernel
theorem dX10_evenings_36 : decode mX10_evenings.2.1 36 = .ok (.aload_n 0, 1) := by decide +kernel
theorem dX10_evenings_37 : decode mX10_evenings.2.1 37 = .ok (.getfield 404, 3) := by decide +kernel
theorem dX10_evenings_40 : decode mX10_evenings.2.1 40 = .ok (.if_icmp .ge 21, 3) := by decide +kernel
theorem dX10_evenings_43 : decode mX10_evenings.2.1 43 = .ok (.aload_n 0, 1) := by decide +kernel
theorem dX10_evenings_44 : decode mX10_evenings.2.1 44 = .ok (.getfield 108, 3) := by decide +kernel
theorem dX10_evenings_47 : decode mX10_evenings.2.1 47 = .ok (.iload_n 2, 1) := by decide +kernel
theorem dX10_evenings_48 : decode mX10_evenings.2.1 48 = .ok (.aload_n 0, 1) := by decide +kernel
theorem dX10_evenings_49 : decode mX10_evenings.2.1 49 = .ok (.getfield 111, 3) := by decide +kernel
theorem dX10_evenings_52 : decode mX10_evenings.2.1 52 = .ok (.iload_n 2, 1) := by decide +kernel
theorem dX10_evenings_53 : decode mX10_evenings.2.1 53 = .ok (.iaload, 1) := by decide +kernel
theorem dX10_evenings_54 : decode mX10_evenings.2.1 54 = .ok (.iastore, 1) := by decide +kernel
theorem dX10_evenings_55 : decode mX10_evenings.2.1 55 = .ok (.iinc 2 1, 3) := by decide +kernel
theorem dX10_evenings_58 : decode mX10_evenings.2.1 58 = .ok (.goto (-23), 3) := by decide +kernel
theorem dX10_evenings_61 : decode mX10_evenings.2.1 61 = .ok (.iload_n 1, 1) := by decide +kernel
theorem dX10_evenings_62 : decode mX10_evenings.2.1 62 = .ok (.ireturn, 1) := by decide +kernel
theorem bX10_evenings_0 {E : px_E} {d : Nat} {w : pw_W} {Q : Option Value → pw_W → Prop} {t : ct_T} (hw : w.1 = cs t)  
    (k1 : ¬ (pw_I w 61 51) = 0 → px_W E mX10_evenings (d + 1) 0 0 19 [.ref 61, .int 1, .null] [] (pw_sI w 61 68 (pw_I w 61 51)) Q)
    (k2 : (pw_I w 61 51) = 0 → Q (some (.int 0)) (pw_sI w 61 68 (pw_I w 61 51))) :
    px_W E mX10_evenings (d + 1) 0 0 0 [.ref 61, .null, .null] [] w Q := by
  refine px_aload_n dX10_evenings_0 rfl rfl ?_
  refine px_aload_n dX10_evenings_1 rfl rfl ?_
  refine px_getI dX10_evenings_2 fr_10_404 rfl (px_sh1 hw sh_61) ?_
  refine px_putI dX10_evenings_5 fl_10_437 (Or.inl rfl) rfl (px_sh1 hw sh_61) rfl rfl (by omega) ?_
  refine px_aload_n dX10_evenings_8 rfl rfl ?_
  refine px_getIv (v := (pw_I w 61 51)) dX10_evenings_9 fr_10_404 rfl (px_sh1 (hI hw) sh_61) rfl ?_
  refine px_if_ne (tgt := 17) dX10_evenings_12 (by decide) (fun h1 => ?_) (fun h1 => ?_)
  ·
    refine px_iconst dX10_evenings_17 ic_1 ?_
    refine px_istore_n (ls' := [.ref 61, .int 1, .null]) dX10_evenings_18 rfl ⟨by decide, rfl⟩ rfl ?_
    exact (k1 h1)
  ·
    refine px_iconst dX10_evenings_15 ic_0 ?_
    exact px_ireturn dX10_evenings_16 rfl rfl (k2 h1)
theorem eX10_evenings {E : px_E} {d : Nat} {w : pw_W} {Q : Option Value → pw_W → Prop} {t : ct_T} (hw : w.1 = cs t)  
    (k1 : ¬ (pw_I w 61 51) = 0 → px_W E mX10_evenings (d + 1) 0 0 19 [.ref 61, .int 1, .null] [] (pw_sI w 61 68 (pw_I w 61 51)) Q)
    (k2 : (pw_I w 61 51) = 0 → Q (some (.int 0)) (pw_sI w 61 68 (pw_I w 61 51))) :
    px_Call E (d + 1) 0 0 mX10_evenings [.ref 61] w Q :=
  px_enter (k := 2) (by decide) (Nat.le_of_ble_eq_true rfl) rfl (px_forget (bX10_evenings_0 hw k1 k2) ⟨Or.inr rfl, Or.inl rfl, Or.inl rfl, trivial⟩)
theorem bX10_evenings_19 {E : px_E} {d : Nat} {w : pw_W} {Q : Option Value → pw_W → Prop} {t : ct_T} (hw : w.1 = cs t) {x1 : Int32}  
    (k1 : px_Call E d 0 0 mX10_findGroups [.ref 61, .int x1] w (fun v w' => px_W E mX10_evenings (d + 1) 0 0 24 [.ref 61, .int x1, .null] (v.toList ++ []) w' Q)) :
    px_W E mX10_evenings (d + 1) 0 0 19 [.ref 61, .int x1, .null] [] w Q := by
  refine px_aload_n dX10_evenings_19 rfl rfl ?_
  refine px_iload_n dX10_evenings_20 rfl rfl ?_
  exact px_callV (As := [.int x1]) (st := []) (rc := 0) (rs := 0) (mc := 0) (ms := 0) dX10_evenings_21 lk_10_539 (px_sh1 hw sh_61) rfl rfl (Nat.le_of_ble_eq_true rfl) k1
theorem bX10_evenings_24 {E : px_E} {d : Nat} {w : pw_W} {Q : Option Value → pw_W → Prop} {t : ct_T} (hw : w.1 = cs t) {x1 y0 : Int32}  
    (k1 : ¬ y0 = 0 → px_W E mX10_evenings (d + 1) 0 0 35 [.ref 61, .int x1, .int 0] [] w Q)
    (k2 : y0 = 0 → px_W E mX10_evenings (d + 1) 0 0 19 [.ref 61, .int (x1 + 1), .null] [] w Q) :
    px_W E mX10_evenings (d + 1) 0 0 24 [.ref 61, .int x1, .null] [.int y0] w Q := by
  refine px_if_ne (tgt := 33) dX10_evenings_24 (by decide) (fun h1 => ?_) (fun h1 => ?_)
  ·
    refine px_iconst dX10_evenings_33 ic_0 ?_
    refine px_istore_n (ls' := [.ref 61, .int x1, .int 0]) dX10_evenings_34 rfl ⟨by decide, rfl⟩ rfl ?_
    exact (k1 h1)
  ·
    refine px_iinc (ls' := [.ref 61, .int (x1 + 1), .null]) dX10_evenings_27 ⟨by decide, rfl⟩ rfl rfl rfl ?_
    refine px_goto (tgt := 19) dX10_evenings_30 (by decide) ?_
    exact (k2 h1)
theorem bX10_evenings_35 {E : px_E} {d : Nat} {w : pw_W} {Q : Option Value → pw_W → Prop} {t : ct_T} (hw : w.1 = cs t) {x1 x2 : Int32}  
    (k1 : (pw_I w 61 51) ≤ x2 → Q (some (.int x1)) w)
    (k2 : ¬ (pw_I w 61 51) ≤ x2 → px_W E mX10_evenings (d + 1) 0 0 43 [.ref 61, .int x1, .int x2] [] w Q) :
    px_W E mX10_evenings (d + 1) 0 0 35 [.ref 61, .int x1, .int x2] [] w Q := by
  refine px_iload_n dX10_evenings_35 rfl rfl ?_
  refine px_aload_n dX10_evenings_36 rfl rfl ?_
  refine px_getI dX10_evenings_37 fr_10_404 rfl (px_sh1 hw sh_61) ?_
  refine px_icmp_ge (tgt := 61) dX10_evenings_40 (by decide) (fun h1 => ?_) (fun h1 => ?_)
  ·
    refine px_iload_n dX10_evenings_61 rfl rfl ?_
    exact px_ireturn dX10_evenings_62 rfl rfl (k1 h1)
  ·
    exact (k2 h1)
theorem bX10_evenings_43 {E : px_E} {d : Nat} {w : pw_W} {Q : Option Value → pw_W → Prop} {t : ct_T} (hw : w.1 = cs t) {x1 x2 : Int32}  (j1 : Nat) (hj1 : x2 = nI j1) (hl1 : j1 < 6)
    (k1 : px_W E mX10_evenings (d + 1) 0 0 35 [.ref 61, .int x1, .int (x2 + 1)] [] (pw_sI w 92 j1 (pw_I w 93 j1)) Q) :
    px_W E mX10_evenings (d + 1) 0 0 43 [.ref 61, .int x1, .int x2] [] w Q := by
  refine px_aload_n dX10_evenings_43 rfl rfl ?_
  refine px_getR (v := 92) dX10_evenings_44 fr_10_108 rfl (px_sh1 hw sh_61) (px_rf hw rf_61_65) (by decide) ?_
  refine px_iload_n dX10_evenings_47 rfl rfl ?_
  refine px_aload_n dX10_evenings_48 rfl rfl ?_
  refine px_getR (v := 93) dX10_evenings_49 fr_10_111 rfl (px_sh1 hw sh_61) (px_rf hw rf_61_66) (by decide) ?_
  refine px_iload_n dX10_evenings_52 rfl rfl ?_
  refine px_iald dX10_evenings_53 (px_sh2 hw sh_93) (by decide) j1 hj1 hl1 ?_
  refine px_iast dX10_evenings_54 (px_sh2 hw sh_92) (by decide) j1 hj1 hl1 (by omega) ?_
  refine px_iinc (ls' := [.ref 61, .int x1, .int (x2 + 1)]) dX10_evenings_55 ⟨by decide, rfl⟩ rfl rfl rfl ?_
  refine px_goto (tgt := 35) dX10_evenings_58 (by decide) ?_
  exact k1
theorem dX10_rumour_0 : decode mX10_rumour.2.1 0 = .ok (.aload_n 0, 1) := by decide +kernel
theorem dX10_rumour_1 : decode mX10_rumour.2.1 1 = .ok (.iload_n 1, 1) := by decide +kernel
theorem dX10_rumour_2 : decode mX10_rumour.2.1 2 = .ok (.invokevirtual 477, 3) := by decide +kernel
theorem dX10_rumour_5 : decode mX10_rumour.2.1 5 = .ok (.ifCond .eq 11, 3) := by decide +kernel
theorem dX10_rumour_8 : decode mX10_rumour.2.1 8 = .ok (.aload_n 0, 1) := by decide +kernel
theorem dX10_rumour_9 : decode mX10_rumour.2.1 9 = .ok (.iload_n 2, 1) := by decide +kernel
theorem dX10_rumour_10 : decode mX10_rumour.2.1 10 = .ok (.invokevirtual 477, 3) := by decide +kernel
theorem dX10_rumour_13 : decode mX10_rumour.2.1 13 = .ok (.ifCond .ne 5, 3) := by decide +kernel
theorem dX10_rumour_16 : decode mX10_rumour.2.1 16 = .ok (.iconst (-1), 1) := by decide +kernel
theorem dX10_rumour_17 : decode mX10_rumour.2.1 17 = .ok (.ireturn, 1) := by decide +kernel
theorem dX10_rumour_18 : decode mX10_rumour.2.1 18 = .ok (.iconst 1, 1) := by decide +kernel
theorem dX10_rumour_19 : decode mX10_rumour.2.1 19 = .ok (.iload_n 1, 1) := by decide +kernel
theorem dX10_rumour_20 : decode mX10_rumour.2.1 20 = .ok (.ishl, 1) := by decide +kernel
theorem dX10_rumour_21 : decode mX10_rumour.2.1 21 = .ok (.istore_n 3, 1) := by decide +kernel
theorem dX10_rumour_22 : decode mX10_rumour.2.1 22 = .ok (.iconst 0, 1) := by decide +kernel
theorem dX10_rumour_23 : decode mX10_rumour.2.1 23 = .ok (.istore 4, 2) := by decide +kernel
theorem dX10_rumour_25 : decode mX10_rumour.2.1 25 = .ok (.iload 4, 2) := by decide +kernel
theorem dX10_rumour_27 : decode mX10_rumour.2.1 27 = .ok (.bipush 6, 2) := by decide +kernel
theorem dX10_rumour_29 : decode mX10_rumour.2.1 29 = .ok (.if_icmp .ge 70, 3) := by decide +kernel
theorem dX10_rumour_32 : decode mX10_rumour.2.1 32 = .ok (.iload_n 3, 1) := by decide +kernel
theorem dX10_rumour_33 : decode mX10_rumour.2.1 33 = .ok (.iload_n 2, 1) := by decide +kernel
theorem dX10_rumour_34 : decode mX10_rumour.2.1 34 = .ok (.ishr, 1) := by decide +kernel
theorem dX10_rumour_35 : decode mX10_rumour.2.1 35 = .ok (.iconst 1, 1) := by decide +kernel
theorem dX10_rumour_36 : decode mX10_rumour.2.1 36 = .ok (.iand, 1) := by decide +kernel
theorem dX10_rumour_37 : decode mX10_rumour.2.1 37 = .ok (.iconst 1, 1) := by decide +kernel
theorem dX10_rumour_38 : decode mX10_rumour.2.1 38 = .ok (.if_icmp .ne 6, 3) := by decide +kernel
theorem dX10_rumour_41 : decode mX10_rumour.2.1 41 = .ok (.iload 4, 2) := by decide +kernel
theorem dX10_rumour_43 : decode mX10_rumour.2.1 43 = .ok (.ireturn, 1) := by decide +kernel
theorem dX10_rumour_44 : decode mX10_rumour.2.1 44 = .ok (.iload_n 3, 1) := by decide +kernel
theorem dX10_rumour_45 : decode mX10_rumour.2.1 45 = .ok (.istore 5, 2) := by decide +kernel
theorem dX10_rumour_47 : decode mX10_rumour.2.1 47 = .ok (.iconst 0, 1) := by decide +kernel
theorem dX10_rumour_48 : decode mX10_rumour.2.1 48 = .ok (.istore 6, 2) := by decide +kernel
theorem dX10_rumour_50 : decode mX10_rumour.2.1 50 = .ok (.iload 6, 2) := by decide +kernel
theorem dX10_rumour_52 : decode mX10_rumour.2.1 52 = .ok (.aload_n 0, 1) := by decide +kernel
theorem dX10_rumour_53 : decode mX10_rumour.2.1 53 = .ok (.getfield 404, 3) := by decide +kernel
theorem dX10_rumour_56 : decode mX10_rumour.2.1 56 = .ok (.if_icmp .ge 34, 3) := by decide +kernel
theorem dX10_rumour_59 : decode mX10_rumour.2.1 59 = .ok (.iload 5, 2) := by decide +kernel
theorem dX10_rumour_61 : decode mX10_rumour.2.1 61 = .ok (.iload_n 3, 1) := by decide +kernel
theorem dX10_rumour_62 : decode mX10_rumour.2.1 62 = .ok (.iload 6, 2) := by decide +kernel
theorem dX10_rumour_64 : decode mX10_rumour.2.1 64 = .ok (.ishr, 1) := by decide +kernel
theorem dX10_rumour_65 : decode mX10_rumour.2.1 65 = .ok (.iconst 1, 1) := by decide +kernel
theorem dX10_rumour_66 : decode mX10_rumour.2.1 66 = .ok (.iand, 1) := by decide +kernel
theorem dX10_rumour_67 : decode mX10_rumour.2.1 67 = .ok (.iconst 1, 1) := by decide +kernel
theorem dX10_rumour_68 : decode mX10_rumour.2.1 68 = .ok (.if_icmp .ne 12, 3) := by decide +kernel
theorem dX10_rumour_71 : decode mX10_rumour.2.1 71 = .ok (.aload_n 0, 1) := by decide +kernel
theorem dX10_rumour_72 : decode mX10_rumour.2.1 72 = .ok (.iload 6, 2) := by decide +kernel
theorem dX10_rumour_74 : decode mX10_rumour.2.1 74 = .ok (.invokevirtual 530, 3) := by decide +kernel
theorem dX10_rumour_77 : decode mX10_rumour.2.1 77 = .ok (.goto 4, 3) := by decide +kernel
theorem dX10_rumour_80 : decode mX10_rumour.2.1 80 = .ok (.iconst 0, 1) := by decide +kernel
theorem dX10_rumour_81 : decode mX10_rumour.2.1 81 = .ok (.ior, 1) := by decide +kernel
theorem dX10_rumour_82 : decode mX10_rumour.2.1 82 = .ok (.istore 5, 2) := by decide +kernel
theorem dX10_rumour_84 : decode mX10_rumour.2.1 84 = .ok (.iinc 6 1, 3) := by decide +kernel
theorem dX10_rumour_87 : decode mX10_rumour.2.1 87 = .ok (.goto (-37), 3) := by decide +kernel
theorem dX10_rumour_90 : decode mX10_rumour.2.1 90 = .ok (.iload 5, 2) := by decide +kernel
theorem dX10_rumour_92 : decode mX10_rumour.2.1 92 = .ok (.istore_n 3, 1) := by decide +kernel
theorem dX10_rumour_93 : decode mX10_rumour.2.1 93 = .ok (.iinc 4 1, 3) := by decide +kernel
theorem dX10_rumour_96 : decode mX10_rumour.2.1 96 = .ok (.goto (-71), 3) := by decide +kernel
theorem dX10_rumour_99 : decode mX10_rumour.2.1 99 = .ok (.iconst (-1), 1) := by decide +kernel
theorem dX10_rumour_100 : decode mX10_rumour.2.1 100 = .ok (.ireturn, 1) := by decide +kernel
theorem bX10_rumour_0 {E : px_E} {d : Nat} {w : pw_W} {Q : Option Value → pw_W → Prop} {t : ct_T} (hw : w.1 = cs t) {x1 x2 : Int32}  
    (k1 : ¬ (pX10_isPerson w x1) → px_W E mX10_rumour (d + 3) 0 0 16 [.null, .null, .null, .null, .null, .null, .null] [] w Q)
    (k2 : (pX10_isPerson w x1) → (pX10_isPerson w x2) → px_W E mX10_rumour (d + 3) 0 0 25 [.ref 61, .null, .int x2, .int (js_shl 1 x1), .int 0, .null, .null] [] w Q)
    (k3 : (pX10_isPerson w x1) → ¬ (pX10_isPerson w x2) → px_W E mX10_rumour (d + 3) 0 0 16 [.null, .null, .null, .null, .null, .null, .null] [] w Q) :
    px_W E mX10_rumour (d + 3) 0 0 0 [.ref 61, .int x1, .int x2, .null, .null, .null, .null] [] w Q := by
  refine px_aload_n dX10_rumour_0 rfl rfl ?_
  refine px_iload_n dX10_rumour_1 rfl rfl ?_
  refine px_callV (As := [.int x1]) (st := []) (rc := 0) (rs := 0) (mc := 0) (ms := 0) dX10_rumour_2 lk_10_477 (px_sh1 hw sh_61) rfl rfl (Nat.le_of_ble_eq_true rfl) (sX10_isPerson (w := w) hw ?_)
  show px_W E mX10_rumour (d + 3) 0 0 5 [.ref 61, .int x1, .int x2, .null, .null, .null, .null] [.int (jb (pX10_isPerson w x1))] w Q
  refine px_jb_eq (tgt := 16) dX10_rumour_5 (by decide) (fun h1 => ?_) (fun h1 => ?_)
  ·
    exact px_forget (k1 h1) ⟨Or.inl rfl, Or.inl rfl, Or.inl rfl, Or.inl rfl, Or.inl rfl, Or.inl rfl, Or.inl rfl, trivial⟩
  ·
    refine px_aload_n dX10_rumour_8 rfl rfl ?_
    refine px_iload_n dX10_rumour_9 rfl rfl ?_
    refine px_callV (As := [.int x2]) (st := []) (rc := 0) (rs := 0) (mc := 0) (ms := 0) dX10_rumour_10 lk_10_477 (px_sh1 hw sh_61) rfl rfl (Nat.le_of_ble_eq_true rfl) (sX10_isPerson (w := w) hw ?_)
    show px_W E mX10_rumour (d + 3) 0 0 13 [.ref 61, .int x1, .int x2, .null, .null, .null, .null] [.int (jb (pX10_isPerson w x2))] w Q
    refine px_jb_ne (tgt := 18) dX10_rumour_13 (by decide) (fun h2 => ?_) (fun h2 => ?_)
    ·
      refine px_iconst dX10_rumour_18 ic_1 ?_
      refine px_iload_n dX10_rumour_19 rfl rfl ?_
      refine px_ishl dX10_rumour_20 ?_
      refine px_istore_n (ls' := [.ref 61, .int x1, .int x2, .int (js_shl 1 x1), .null, .null, .null]) dX10_rumour_21 rfl ⟨by decide, rfl⟩ rfl ?_
      refine px_iconst dX10_rumour_22 ic_0 ?_
      refine px_istore (ls' := [.ref 61, .int x1, .int x2, .int (js_shl 1 x1), .int 0, .null, .null]) dX10_rumour_23 ⟨by decide, rfl⟩ rfl ?_
      exact px_forget (k2 h1 h2) ⟨Or.inr rfl, Or.inl rfl, Or.inr rfl, Or.inr rfl, Or.inr rfl, Or.inl rfl, Or.inl rfl, trivial⟩
    ·
      exact px_forget (k3 h1 h2) ⟨Or.inl rfl, Or.inl rfl, Or.inl rfl, Or.inl rfl, Or.inl rfl, Or.inl rfl, Or.inl rfl, trivial⟩
theorem eX10_rumour {E : px_E} {d : Nat} {w : pw_W} {Q : Option Value → pw_W → Prop} {t : ct_T} (hw : w.1 = cs t) {x1 x2 : Int32}  
    (k1 : ¬ (pX10_isPerson w x1) → px_W E mX10_rumour (d + 3) 0 0 16 [.null, .null, .null, .null, .null, .null, .null] [] w Q)
    (k2 : (pX10_isPerson w x1) → (pX10_isPerson w x2) → px_W E mX10_rumour (d + 3) 0 0 25 [.ref 61, .null, .int x2, .int (js_shl 1 x1), .int 0, .null, .null] [] w Q)
    (k3 : (pX10_isPerson w x1) → ¬ (pX10_isPerson w x2) → px_W E mX10_rumour (d + 3) 0 0 16 [.null, .null, .null, .null, .null, .null, .null] [] w Q) :
    px_Call E (d + 3) 0 0 mX10_rumour [.ref 61, .int x1, .int x2] w Q :=
  px_enter (k := 4) (by decide) (Nat.le_of_ble_eq_true rfl) rfl (px_forget (bX10_rumour_0 hw k1 k2 k3) ⟨Or.inr rfl, Or.inr rfl, Or.inr rfl, Or.inl rfl, Or.inl rfl, Or.inl rfl, Or.inl rfl, trivial⟩)
theorem bX10_rumour_16 {E : px_E} {d : Nat} {w : pw_W} {Q : Option Value → pw_W → Prop} {t : ct_T} (hw : w.1 = cs t)  
    (k1 : Q (some (.int (-1))) w) :
    px_W E mX10_rumour (d + 3) 0 0 16 [.null, .null, .null, .null, .null, .null, .null] [] w Q := by
  refine px_iconst dX10_rumour_16 ic_m1 ?_
  exact px_ireturn dX10_rumour_17 rfl rfl k1
theorem bX10_rumour_25 {E : px_E} {d : Nat} {w : pw_W} {Q : Option Value → pw_W → Prop} {t : ct_T} (hw : w.1 = cs t) {x2 x3 x4 : Int32}  
    (k1 : 6 ≤ x4 → Q (some (.int (-1))) w)
    (k2 : ¬ 6 ≤ x4 → ¬ ((js_shr x3 x2) &&& 1) = 1 → px_W E mX10_rumour (d + 3) 0 0 50 [.ref 61, .null, .int x2, .int x3, .int x4, .int x3, .int 0] [] w Q)
    (k3 : ¬ 6 ≤ x4 → ((js_shr x3 x2) &&& 1) = 1 → Q (some (.int x4)) w) :
    px_W E mX10_rumour (d + 3) 0 0 25 [.ref 61, .null, .int x2, .int x3, .int x4, .null, .null] [] w Q := by
  refine px_iload dX10_rumour_25 rfl ?_
  refine px_bipush dX10_rumour_27 bp_6 ?_
  refine px_icmp_ge (tgt := 99) dX10_rumour_29 (by decide) (fun h1 => ?_) (fun h1 => ?_)
  ·
    refine px_iconst dX10_rumour_99 ic_m1 ?_
    exact px_ireturn dX10_rumour_100 rfl rfl (k1 h1)
  ·
    refine px_iload_n dX10_rumour_32 rfl rfl ?_
    refine px_iload_n dX10_rumour_33 rfl rfl ?_
    refine px_ishr dX10_rumour_34 ?_
    refine px_iconst dX10_rumour_35 ic_1 ?_
    refine px_iand dX10_rumour_36 ?_
    refine px_iconst dX10_rumour_37 ic_1 ?_
    refine px_icmp_ne (tgt := 44) dX10_rumour_38 (by decide) (fun h2 => ?_) (fun h2 => ?_)
    ·
      refine px_iload_n dX10_rumour_44 rfl rfl ?_
      refine px_istore (ls' := [.ref 61, .null, .int x2, .int x3, .int x4, .int x3, .null]) dX10_rumour_45 ⟨by decide, rfl⟩ rfl ?_
      refine px_iconst dX10_rumour_47 ic_0 ?_
      refine px_istore (ls' := [.ref 61, .null, .int x2, .int x3, .int x4, .int x3, .int 0]) dX10_rumour_48 ⟨by decide, rfl⟩ rfl ?_
      exact (k2 h1 h2)
    ·
      refine px_iload dX10_rumour_41 rfl ?_
      exact px_ireturn dX10_rumour_43 rfl rfl (k3 h1 h2)
theorem bX10_rumour_50 {E : px_E} {d : Nat} {w : pw_W} {Q : Option Value → pw_W → Prop} {t : ct_T} (hw : w.1 = cs t) {x2 x3 x4 x5 x6 : Int32}  
    (k1 : (pw_I w 61 51) ≤ x6 → px_W E mX10_rumour (d + 3) 0 0 25 [.ref 61, .null, .int x2, .int x5, .int (x4 + 1), .null, .null] [] w Q)
    (k2 : ¬ (pw_I w 61 51) ≤ x6 → ¬ ((js_shr x3 x6) &&& 1) = 1 → px_W E mX10_rumour (d + 3) 0 0 81 [.ref 61, .null, .int x2, .int x3, .int x4, .null, .int x6] [.int 0, .int x5] w Q)
    (k3 : ¬ (pw_I w 61 51) ≤ x6 → ((js_shr x3 x6) &&& 1) = 1 → px_Call E (d + 2) 0 0 mX10_friendsOf [.ref 61, .int x6] w (fun v w' => px_W E mX10_rumour (d + 3) 0 0 77 [.ref 61, .null, .int x2, .int x3, .int x4, .null, .int x6] (v.toList ++ [.int x5]) w' Q)) :
    px_W E mX10_rumour (d + 3) 0 0 50 [.ref 61, .null, .int x2, .int x3, .int x4, .int x5, .int x6] [] w Q := by
  refine px_iload dX10_rumour_50 rfl ?_
  refine px_aload_n dX10_rumour_52 rfl rfl ?_
  refine px_getI dX10_rumour_53 fr_10_404 rfl (px_sh1 hw sh_61) ?_
  refine px_icmp_ge (tgt := 90) dX10_rumour_56 (by decide) (fun h1 => ?_) (fun h1 => ?_)
  ·
    refine px_iload dX10_rumour_90 rfl ?_
    refine px_istore_n (ls' := [.ref 61, .null, .int x2, .int x5, .int x4, .int x5, .int x6]) dX10_rumour_92 rfl ⟨by decide, rfl⟩ rfl ?_
    refine px_iinc (ls' := [.ref 61, .null, .int x2, .int x5, .int (x4 + 1), .int x5, .int x6]) dX10_rumour_93 ⟨by decide, rfl⟩ rfl rfl rfl ?_
    refine px_goto (tgt := 25) dX10_rumour_96 (by decide) ?_
    exact px_forget (k1 h1) ⟨Or.inr rfl, Or.inl rfl, Or.inr rfl, Or.inr rfl, Or.inr rfl, Or.inl rfl, Or.inl rfl, trivial⟩
  ·
    refine px_iload dX10_rumour_59 rfl ?_
    refine px_iload_n dX10_rumour_61 rfl rfl ?_
    refine px_iload dX10_rumour_62 rfl ?_
    refine px_ishr dX10_rumour_64 ?_
    refine px_iconst dX10_rumour_65 ic_1 ?_
    refine px_iand dX10_rumour_66 ?_
    refine px_iconst dX10_rumour_67 ic_1 ?_
    refine px_icmp_ne (tgt := 80) dX10_rumour_68 (by decide) (fun h2 => ?_) (fun h2 => ?_)
    ·
      refine px_iconst dX10_rumour_80 ic_0 ?_
      exact px_forget (k2 h1 h2) ⟨Or.inr rfl, Or.inl rfl, Or.inr rfl, Or.inr rfl, Or.inr rfl, Or.inl rfl, Or.inr rfl, trivial⟩
    ·
      refine px_aload_n dX10_rumour_71 rfl rfl ?_
      refine px_iload dX10_rumour_72 rfl ?_
      refine px_forget (ls' := [.ref 61, .null, .int x2, .int x3, .int x4, .null, .int x6]) ?_ ⟨Or.inr rfl, Or.inl rfl, Or.inr rfl, Or.inr rfl, Or.inr rfl, Or.inl rfl, Or.inr rfl, trivial⟩
      exact px_callV (As := [.int x6]) (st := [.int x5]) (rc := 0) (rs := 0) (mc := 0) (ms := 0) dX10_rumour_74 lk_10_530 (px_sh1 hw sh_61) rfl rfl (Nat.le_of_ble_eq_true rfl) (k3 h1 h2)
theorem bX10_rumour_77 {E : px_E} {d : Nat} {w : pw_W} {Q : Option Value → pw_W → Prop} {t : ct_T} (hw : w.1 = cs t) {x2 x3 x4 x6 y0 y1 : Int32}  
    (k1 : px_W E mX10_rumour (d + 3) 0 0 81 [.ref 61, .null, .int x2, .int x3, .int x4, .null, .int x6] [.int y1, .int y0] w Q) :
    px_W E mX10_rumour (d + 3) 0 0 77 [.ref 61, .null, .int x2, .int x3, .int x4, .null, .int x6] [.int y1, .int y0] w Q := by
  refine px_goto (tgt := 81) dX10_rumour_77 (by decide) ?_
  exact k1
theorem bX10_rumour_81 {E : px_E} {d : Nat} {w : pw_W} {Q : Option Value → pw_W → Prop} {t : ct_T} (hw : w.1 = cs t) {x2 x3 x4 x6 y0 y1 : Int32}  
    (k1 : px_W E mX10_rumour (d + 3) 0 0 50 [.ref 61, .null, .int x2, .int x3, .int x4, .int (y0 ||| y1), .int (x6 + 1)] [] w Q) :
    px_W E mX10_rumour (d + 3) 0 0 81 [.ref 61, .null, .int x2, .int x3, .int x4, .null, .int x6] [.int y1, .int y0] w Q := by
  refine px_ior dX10_rumour_81 ?_
  refine px_istore (ls' := [.ref 61, .null, .int x2, .int x3, .int x4, .int (y0 ||| y1), .int x6]) dX10_rumour_82 ⟨by decide, rfl⟩ rfl ?_
  refine px_iinc (ls' := [.ref 61, .null, .int x2, .int x3, .int x4, .int (y0 ||| y1), .int (x6 + 1)]) dX10_rumour_84 ⟨by decide, rfl⟩ rfl rfl rfl ?_
  refine px_goto (tgt := 50) dX10_rumour_87 (by decide) ?_
  exact k1
theorem dX10_manners_0 : decode mX10_manners.2.1 0 = .ok (.aload_n 0, 1) := by decide +kernel
theorem dX10_manners_1 : decode mX10_manners.2.1 1 = .ok (.invokevirtual 480, 3) := by decide +kernel
theorem dX10_manners_4 : decode mX10_manners.2.1 4 = .ok (.iconst 0, 1) := by decide +kernel
theorem dX10_manners_5 : decode mX10_manners.2.1 5 = .ok (.istore_n 1, 1) := by decide +kernel
theorem dX10_manners_6 : decode mX10_manners.2.1 6 = .ok (.iload_n 1, 1) := by decide +kernel
theorem dX10_manners_7 : decode mX10_manners.2.1 7 = .ok (.aload_n 0, 1) := by decide +kernel
theorem dX10_manners_8 : decode mX10_manners.2.1 8 = .ok (.getfield 404, 3) := by decide +kernel
theorem dX10_manners_11 : decode mX10_manners.2.1 11 = .ok (.if_icmp .ge 21, 3) := by decide +kernel
theorem dX10_manners_14 : decode mX10_manners.2.1 14 = .ok (.aload_n 0, 1) := by decide +kernel
theorem dX10_manners_15 : decode mX10_manners.2.1 15 = .ok (.getfield 114, 3) := by decide +kernel
theorem dX10_manners_18 : decode mX10_manners.2.1 18 = .ok (.iload_n 1, 1) := by decide +kernel
theorem dX10_manners_19 : decode mX10_manners.2.1 19 = .ok (.aload_n 0, 1) := by decide +kernel
theorem dX10_manners_20 : decode mX10_manners.2.1 20 = .ok (.getfield 102, 3) := by decide +kernel
theorem dX10_manners_23 : decode mX10_manners.2.1 23 = .ok (.iload_n 1, 1) := by decide +kernel
theorem dX10_manners_24 : decode mX10_manners.2.1 24 = .ok (.iaload, 1) := by decide +kernel
theorem dX10_manners_25 : decode mX10_manners.2.1 25 = .ok (.iastore, 1) := by decide +kernel
theorem dX10_manners_26 : decode mX10_manners.2.1 26 = .ok (.iinc 1 1, 3) := by decide +kernel
theorem dX10_manners_29 : decode mX10_manners.2.1 29 = .ok (.goto (-23), 3) := by decide +kernel
theorem dX10_manners_32 : decode mX10_manners.2.1 32 = .ok (.iconst 0, 1) := by decide +kernel
theorem dX10_manners_33 : decode mX10_manners.2.1 33 = .ok (.istore_n 1, 1) := by decide +kernel
theorem dX10_manners_34 : decode mX10_manners.2.1 34 = .ok (.iconst 1, 1) := by decide +kernel
theorem dX10_manners_35 : decode mX10_manners.2.1 35 = .ok (.istore_n 2, 1) := by decide +kernel
theorem dX10_manners_36 : decode mX10_manners.2.1 36 = .ok (.iload_n 2, 1) := by decide +kernel
theorem dX10_manners_37 : decode mX10_manners.2.1 37 = .ok (.bipush 67, 2) := by decide +kernel
theorem dX10_manners_39 : decode mX10_manners.2.1 39 = .ok (.if_icmp .gt 70, 3) := by decide +kernel
theorem dX10_manners_42 : decode mX10_manners.2.1 42 = .ok (.aload_n 0, 1) := by decide +kernel
theorem dX10_manners_43 : decode mX10_manners.2.1 43 = .ok (.iconst 0, 1) := by decide +kernel
theorem dX10_manners_44 : decode mX10_manners.2.1 44 = .ok (.invokevirtual 495, 3) := by decide +kernel
theorem dX10_manners_47 : decode mX10_manners.2.1 47 = .ok (.pop, 1) := by decide +kernel
theorem dX10_manners_48 : decode mX10_manners.2.1 48 = .ok (.iconst 0, 1) := by decide +kernel
theorem dX10_manners_49 : decode mX10_manners.2.1 49 = .ok (.istore_n 3, 1) := by decide +kernel
theorem dX10_manners_50 : decode mX10_manners.2.1 50 = .ok (.iload_n 3, 1) := by decide +kernel
theorem dX10_manners_51 : decode mX10_manners.2.1 51 = .ok (.aload_n 0, 1) := by decide +kernel
theorem dX10_manners_52 : decode mX10_manners.2.1 52 = .ok (.getfield 404, 3) := by decide +kernel
theorem dX10_manners_55 : decode mX10_manners.2.1 55 = .ok (.if_icmp .ge 38, 3) := by decide +kernel
theorem dX10_manners_58 : decode mX10_manners.2.1 58 = .ok (.aload_n 0, 1) := by decide +kernel
theorem dX10_manners_59 : decode mX10_manners.2.1 59 = .ok (.getfield 102, 3) := by decide +kernel
theorem dX10_manners_62 : decode mX10_manners.2.1 62 = .ok (.iload_n 3, 1) := by decide +kernel
theorem dX10_manners_63 : decode mX10_manners.2.1 63 = .ok (.iaload, 1) := by decide +kernel
theorem dX10_manners_64 : decode mX10_manners.2.1 64 = .ok (.aload_n 0, 1) := by decide +kernel
theorem dX10_manners_65 : decode mX10_manners.2.1 65 = .ok (.getfield 114, 3) := by decide +kernel
theorem dX10_manners_68 : decode mX10_manners.2.1 68 = .ok (.iload_n 3, 1) := by decide +kernel
theorem dX10_manners_69 : decode mX10_manners.2.1 69 = .ok (.iaload, 1) := by decide +kernel
theorem dX10_manners_70 : decode mX10_manners.2.1 70 = .ok (.if_icmp .eq 5, 3) := by decide +kernel
theorem dX10_manners_73 : decode mX10_manners.2.1 73 = .ok (.iload_n 2, 1) := by decide +kernel
theorem dX10_manners_74 : decode mX10_manners.2.1 74 = .ok (.istore_n 1, 1) := by decide +kernel
theorem dX10_manners_75 : decode mX10_manners.2.1 75 = .ok (.aload_n 0, 1) := by decide +kernel
theorem dX10_manners_76 : decode mX10_manners.2.1 76 = .ok (.getfield 114, 3) := by decide +kernel
theorem dX10_manners_79 : decode mX10_manners.2.1 79 = .ok (.iload_n 3, 1) := by decide +kernel
theorem dX10_manners_80 : decode mX10_manners.2.1 80 = .ok (.aload_n 0, 1) := by decide +kernel
theorem dX10_manners_81 : decode mX10_manners.2.1 81 = .ok (.getfield 102, 3) := by decide +kernel
theorem dX10_manners_84 : decode mX10_manners.2.1 84 = .ok (.iload_n 3, 1) := by decide +kernel
theorem dX10_manners_85 : decode mX10_manners.2.1 85 = .ok (.iaload, 1) := by decide +kernel
theorem dX10_manners_86 : decode mX10_manners.2.1 86 = .ok (.iastore, 1) := by decide +kernel
theorem dX10_manners_87 : decode mX10_manners.2.1 87 = .ok (.iinc 3 1, 3) := by decide +kernel
theorem dX10_manners_90 : decode mX10_manners.2.1 90 = .ok (.goto (-40), 3) := by decide +kernel
theorem dX10_manners_93 : decode mX10_manners.2.1 93 = .ok (.iload_n 2, 1) := by decide +kernel
theorem dX10_manners_94 : decode mX10_manners.2.1 94 = .ok (.iload_n 1, 1) := by decide +kernel
theorem dX10_manners_95 : decode mX10_manners.2.1 95 = .ok (.isub, 1) := by decide +kernel
theorem dX10_manners_96 : decode mX10_manners.2.1 96 = .ok (.bipush 7, 2) := by decide +kernel
theorem dX10_manners_98 : decode mX10_manners.2.1 98 = .ok (.if_icmp .ne 5, 3) := by decide +kernel
theorem dX10_manners_101 : decode mX10_manners.2.1 101 = .ok (.iload_n 1, 1) := by decide +kernel
theorem dX10_manners_102 : decode mX10_manners.2.1 102 = .ok (.ireturn, 1) := by decide +kernel
theorem dX10_manners_103 : decode mX10_manners.2.1 103 = .ok (.iinc 2 1, 3) := by decide +kernel
theorem dX10_manners_106 : decode mX10_manners.2.1 106 = .ok (.goto (-70), 3) := by decide +kernel
theorem dX10_manners_109 : decode mX10_manners.2.1 109 = .ok (.iconst (-1), 1) := by decide +kernel
theorem dX10_manners_110 : decode mX10_manners.2.1 110 = .ok (.ireturn, 1) := by decide +kernel
theorem bX10_manners_0 {E : px_E} {d : Nat} {w : pw_W} {Q : Option Value → pw_W → Prop} {t : ct_T} (hw : w.1 = cs t)  
    (k1 : px_Call E d 0 0 mX10_fill [.ref 61] w (fun v w' => px_W E mX10_manners (d + 1) 0 0 4 [.ref 61, .null, .null, .null] (v.toList ++ []) w' Q)) :
    px_W E mX10_manners (d + 1) 0 0 0 [.ref 61, .null, .null, .null] [] w Q := by
  refine px_aload_n dX10_manners_0 rfl rfl ?_
  exact px_callV (As := []) (st := []) (rc := 0) (rs := 0) (mc := 0) (ms := 0) dX10_manners_1 lk_10_480 (px_sh1 hw sh_61) rfl rfl (Nat.le_of_ble_eq_true rfl) k1
theorem eX10_manners {E : px_E} {d : Nat} {w : pw_W} {Q : Option Value → pw_W → Prop} {t : ct_T} (hw : w.1 = cs t)  
    (k1 : px_Call E d 0 0 mX10_fill [.ref 61] w (fun v w' => px_W E mX10_manners (d + 1) 0 0 4 [.ref 61, .null, .null, .null] (v.toList ++ []) w' Q)) :
    px_Call E (d + 1) 0 0 mX10_manners [.ref 61] w Q :=
  px_enter (k := 3) (by decide) (Nat.le_of_ble_eq_true rfl) rfl (px_forget (bX10_manners_0 hw k1) ⟨Or.inr rfl, Or.inl rfl, Or.inl rfl, Or.inl rfl, trivial⟩)
theorem bX10_manners_4 {E : px_E} {d : Nat} {w : pw_W} {Q : Option Value → pw_W → Prop} {t : ct_T} (hw : w.1 = cs t)  
    (k1 : px_W E mX10_manners (d + 1) 0 0 6 [.ref 61, .int 0, .null, .null] [] w Q) :
    px_W E mX10_manners (d + 1) 0 0 4 [.ref 61, .null, .null, .null] [] w Q := by
  refine px_iconst dX10_manners_4 ic_0 ?_
  refine px_istore_n (ls' := [.ref 61, .int 0, .null, .null]) dX10_manners_5 rfl ⟨by decide, rfl⟩ rfl ?_
  exact k1
theorem bX10_manners_6 {E : px_E} {d : Nat} {w : pw_W} {Q : Option Value → pw_W → Prop} {t : ct_T} (hw : w.1 = cs t) {x1 : Int32}  
    (k1 : (pw_I w 61 51) ≤ x1 → px_W E mX10_manners (d + 1) 0 0 36 [.ref 61, .int 0, .int 1, .null] [] w Q)
    (k2 : ¬ (pw_I w 61 51) ≤ x1 → px_W E mX10_manners (d + 1) 0 0 14 [.ref 61, .int x1, .null, .null] [] w Q) :
    px_W E mX10_manners (d + 1) 0 0 6 [.ref 61, .int x1, .null, .null] [] w Q := by
  refine px_iload_n dX10_manners_6 rfl rfl ?_
  refine px_aload_n dX10_manners_7 rfl rfl ?_
  refine px_getI dX10_manners_8 fr_10_404 rfl (px_sh1 hw sh_61) ?_
  refine px_icmp_ge (tgt := 32) dX10_manners_11 (by decide) (fun h1 => ?_) (fun h1 => ?_)
  ·
    refine px_iconst dX10_manners_32 ic_0 ?_
    refine px_istore_n (ls' := [.ref 61, .int 0, .null, .null]) dX10_manners_33 rfl ⟨by decide, rfl⟩ rfl ?_
    refine px_iconst dX10_manners_34 ic_1 ?_
    refine px_istore_n (ls' := [.ref 61, .int 0, .int 1, .null]) dX10_manners_35 rfl ⟨by decide, rfl⟩ rfl ?_
    exact (k1 h1)
  ·
    exact (k2 h1)
theorem bX10_manners_14 {E : px_E} {d : Nat} {w : pw_W} {Q : Option Value → pw_W → Prop} {t : ct_T} (hw : w.1 = cs t) {x1 : Int32}  (j1 : Nat) (hj1 : x1 = nI j1) (hl1 : j1 < 15) (j2 : Nat) (hj2 : x1 = nI j2) (hl2 : j2 < 6)
    (k1 : px_W E mX10_manners (d + 1) 0 0 6 [.ref 61, .int (x1 + 1), .null, .null] [] (pw_sI w 94 j2 (pw_I w 90 j1)) Q) :
    px_W E mX10_manners (d + 1) 0 0 14 [.ref 61, .int x1, .null, .null] [] w Q := by
  refine px_aload_n dX10_manners_14 rfl rfl ?_
  refine px_getR (v := 94) dX10_manners_15 fr_10_114 rfl (px_sh1 hw sh_61) (px_rf hw rf_61_67) (by decide) ?_
  refine px_iload_n dX10_manners_18 rfl rfl ?_
  refine px_aload_n dX10_manners_19 rfl rfl ?_
  refine px_getR (v := 90) dX10_manners_20 fr_10_102 rfl (px_sh1 hw sh_61) (px_rf hw rf_61_61) (by decide) ?_
  refine px_iload_n dX10_manners_23 rfl rfl ?_
  refine px_iald dX10_manners_24 (px_sh2 hw sh_90) (by decide) j1 hj1 hl1 ?_
  refine px_iast dX10_manners_25 (px_sh2 hw sh_94) (by decide) j2 hj2 hl2 (by omega) ?_
  refine px_iinc (ls' := [.ref 61, .int (x1 + 1), .null, .null]) dX10_manners_26 ⟨by decide, rfl⟩ rfl rfl rfl ?_
  refine px_goto (tgt := 6) dX10_manners_29 (by decide) ?_
  exact k1
theorem bX10_manners_36 {E : px_E} {d : Nat} {w : pw_W} {Q : Option Value → pw_W → Prop} {t : ct_T} (hw : w.1 = cs t) {x1 x2 : Int32}  
    (k1 : 67 < x2 → Q (some (.int (-1))) w)
    (k2 : ¬ 67 < x2 → px_Call E d 0 0 mX10_goDay [.ref 61, .int 0] w (fun v w' => px_W E mX10_manners (d + 1) 0 0 47 [.ref 61, .int x1, .int x2, .null] (v.toList ++ []) w' Q)) :
    px_W E mX10_manners (d + 1) 0 0 36 [.ref 61, .int x1, .int x2, .null] [] w Q := by
  refine px_iload_n dX10_manners_36 rfl rfl ?_
  refine px_bipush dX10_manners_37 bp_67 ?_
  refine px_icmp_gt (tgt := 109) dX10_manners_39 (by decide) (fun h1 => ?_) (fun h1 => ?_)
  ·
    refine px_iconst dX10_manners_109 ic_m1 ?_
    exact px_ireturn dX10_manners_110 rfl rfl (k1 h1)
  ·
    refine px_aload_n dX10_manners_42 rfl rfl ?_
    refine px_iconst dX10_manners_43 ic_0 ?_
    exact px_callV (As := [.int 0]) (st := []) (rc := 0) (rs := 0) (mc := 0) (ms := 0) dX10_manners_44 lk_10_495 (px_sh1 hw sh_61) rfl rfl (Nat.le_of_ble_eq_true rfl) (k2 h1)
theorem bX10_manners_47 {E : px_E} {d : Nat} {w : pw_W} {Q : Option Value → pw_W → Prop} {t : ct_T} (hw : w.1 = cs t) {x1 x2 y0 : Int32}  
    (k1 : px_W E mX10_manners (d + 1) 0 0 50 [.ref 61, .int x1, .int x2, .int 0] [] w Q) :
    px_W E mX10_manners (d + 1) 0 0 47 [.ref 61, .int x1, .int x2, .null] [.int y0] w Q := by
  refine px_pop dX10_manners_47 rfl ?_
  refine px_iconst dX10_manners_48 ic_0 ?_
  refine px_istore_n (ls' := [.ref 61, .int x1, .int x2, .int 0]) dX10_manners_49 rfl ⟨by decide, rfl⟩ rfl ?_
  exact k1
theorem bX10_manners_50 {E : px_E} {d : Nat} {w : pw_W} {Q : Option Value → pw_W → Prop} {t : ct_T} (hw : w.1 = cs t) {x1 x2 x3 : Int32}  
    (k1 : (pw_I w 61 51) ≤ x3 → ¬ (x2 - x1) = 7 → px_W E mX10_manners (d + 1) 0 0 36 [.ref 61, .int x1, .int (x2 + 1), .null] [] w Q)
    (k2 : (pw_I w 61 51) ≤ x3 → (x2 - x1) = 7 → Q (some (.int x1)) w)
    (k3 : ¬ (pw_I w 61 51) ≤ x3 → px_W E mX10_manners (d + 1) 0 0 58 [.ref 61, .int x1, .int x2, .int x3] [] w Q) :
    px_W E mX10_manners (d + 1) 0 0 50 [.ref 61, .int x1, .int x2, .int x3] [] w Q := by
  refine px_iload_n dX10_manners_50 rfl rfl ?_
  refine px_aload_n dX10_manners_51 rfl rfl ?_
  refine px_getI dX10_manners_52 fr_10_404 rfl (px_sh1 hw sh_61) ?_
  refine px_icmp_ge (tgt := 93) dX10_manners_55 (by decide) (fun h1 => ?_) (fun h1 => ?_)
  ·
    refine px_iload_n dX10_manners_93 rfl rfl ?_
    refine px_iload_n dX10_manners_94 rfl rfl ?_
    refine px_isub dX10_manners_95 ?_
    refine px_bipush dX10_manners_96 bp_7 ?_
    refine px_icmp_ne (tgt := 103) dX10_manners_98 (by decide) (fun h2 => ?_) (fun h2 => ?_)
    ·
      refine px_iinc (ls' := [.ref 61, .int x1, .int (x2 + 1), .int x3]) dX10_manners_103 ⟨by decide, rfl⟩ rfl rfl rfl ?_
      refine px_goto (tgt := 36) dX10_manners_106 (by decide) ?_
      exact px_forget (k1 h1 h2) ⟨Or.inr rfl, Or.inr rfl, Or.inr rfl, Or.inl rfl, trivial⟩
    ·
      refine px_iload_n dX10_manners_101 rfl rfl ?_
      exact px_ireturn dX10_manners_102 rfl rfl (k2 h1 h2)
  ·
    exact (k3 h1)
theorem bX10_manners_58 {E : px_E} {d : Nat} {w : pw_W} {Q : Option Value → pw_W → Prop} {t : ct_T} (hw : w.1 = cs t) {x1 x2 x3 : Int32}  (j1 : Nat) (hj1 : x3 = nI j1) (hl1 : j1 < 15) (j2 : Nat) (hj2 : x3 = nI j2) (hl2 : j2 < 6)
    (k1 : (pw_I w 90 j1) = (pw_I w 94 j2) → px_W E mX10_manners (d + 1) 0 0 75 [.ref 61, .int x1, .int x2, .int x3] [] w Q)
    (k2 : ¬ (pw_I w 90 j1) = (pw_I w 94 j2) → px_W E mX10_manners (d + 1) 0 0 75 [.ref 61, .int x2, .int x2, .int x3] [] w Q) :
    px_W E mX10_manners (d + 1) 0 0 58 [.ref 61, .int x1, .int x2, .int x3] [] w Q := by
  refine px_aload_n dX10_manners_58 rfl rfl ?_
  refine px_getR (v := 90) dX10_manners_59 fr_10_102 rfl (px_sh1 hw sh_61) (px_rf hw rf_61_61) (by decide) ?_
  refine px_iload_n dX10_manners_62 rfl rfl ?_
  refine px_iald dX10_manners_63 (px_sh2 hw sh_90) (by decide) j1 hj1 hl1 ?_
  refine px_aload_n dX10_manners_64 rfl rfl ?_
  refine px_getR (v := 94) dX10_manners_65 fr_10_114 rfl (px_sh1 hw sh_61) (px_rf hw rf_61_67) (by decide) ?_
  refine px_iload_n dX10_manners_68 rfl rfl ?_
  refine px_iald dX10_manners_69 (px_sh2 hw sh_94) (by decide) j2 hj2 hl2 ?_
  refine px_icmp_eq (tgt := 75) dX10_manners_70 (by decide) (fun h1 => ?_) (fun h1 => ?_)
  ·
    exact (k1 h1)
  ·
    refine px_iload_n dX10_manners_73 rfl rfl ?_
    refine px_istore_n (ls' := [.ref 61, .int x2, .int x2, .int x3]) dX10_manners_74 rfl ⟨by decide, rfl⟩ rfl ?_
    exact (k2 h1)
theorem bX10_manners_75 {E : px_E} {d : Nat} {w : pw_W} {Q : Option Value → pw_W → Prop} {t : ct_T} (hw : w.1 = cs t) {x1 x2 x3 : Int32}  (j1 : Nat) (hj1 : x3 = nI j1) (hl1 : j1 < 15) (j2 : Nat) (hj2 : x3 = nI j2) (hl2 : j2 < 6)
    (k1 : px_W E mX10_manners (d + 1) 0 0 50 [.ref 61, .int x1, .int x2, .int (x3 + 1)] [] (pw_sI w 94 j2 (pw_I w 90 j1)) Q) :
    px_W E mX10_manners (d + 1) 0 0 75 [.ref 61, .int x1, .int x2, .int x3] [] w Q := by
  refine px_aload_n dX10_manners_75 rfl rfl ?_
  refine px_getR (v := 94) dX10_manners_76 fr_10_114 rfl (px_sh1 hw sh_61) (px_rf hw rf_61_67) (by decide) ?_
  refine px_iload_n dX10_manners_79 rfl rfl ?_
  refine px_aload_n dX10_manners_80 rfl rfl ?_
  refine px_getR (v := 90) dX10_manners_81 fr_10_102 rfl (px_sh1 hw sh_61) (px_rf hw rf_61_61) (by decide) ?_
  refine px_iload_n dX10_manners_84 rfl rfl ?_
  refine px_iald dX10_manners_85 (px_sh2 hw sh_90) (by decide) j1 hj1 hl1 ?_
  refine px_iast dX10_manners_86 (px_sh2 hw sh_94) (by decide) j2 hj2 hl2 (by omega) ?_
  refine px_iinc (ls' := [.ref 61, .int x1, .int x2, .int (x3 + 1)]) dX10_manners_87 ⟨by decide, rfl⟩ rfl rfl rfl ?_
  refine px_goto (tgt := 50) dX10_manners_90 (by decide) ?_
  exact k1
theorem dX10_duel_0 : decode mX10_duel.2.1 0 = .ok (.aload_n 0, 1) := by decide +kernel
theorem dX10_duel_1 : decode mX10_duel.2.1 1 = .ok (.iconst 0, 1) := by decide +kernel
theorem dX10_duel_2 : decode mX10_duel.2.1 2 = .ok (.putfield 437, 3) := by decide +kernel
theorem dX10_duel_5 : decode mX10_duel.2.1 5 = .ok (.aload_n 0, 1) := by decide +kernel
theorem dX10_duel_6 : decode mX10_duel.2.1 6 = .ok (.iload_n 1, 1) := by decide +kernel
theorem dX10_duel_7 : decode mX10_duel.2.1 7 = .ok (.invokevirtual 483, 3) := by decide +kernel
theorem dX10_duel_10 : decode mX10_duel.2.1 10 = .ok (.ifCond .ne 5, 3) := by decide +kernel
theorem dX10_duel_13 : decode mX10_duel.2.1 13 = .ok (.iconst (-1), 1) := by decide +kernel
theorem dX10_duel_14 : decode mX10_duel.2.1 14 = .ok (.ireturn, 1) := by decide +kernel
theorem dX10_duel_15 : decode mX10_duel.2.1 15 = .ok (.aload_n 0, 1) := by decide +kernel
theorem dX10_duel_16 : decode mX10_duel.2.1 16 = .ok (.invokevirtual 480, 3) := by decide +kernel
theorem dX10_duel_19 : decode mX10_duel.2.1 19 = .ok (.aload_n 0, 1) := by decide +kernel
theorem dX10_duel_20 : decode mX10_duel.2.1 20 = .ok (.getfield 78, 3) := by decide +kernel
theorem dX10_duel_23 : decode mX10_duel.2.1 23 = .ok (.iload_n 1, 1) := by decide +kernel
theorem dX10_duel_24 : decode mX10_duel.2.1 24 = .ok (.iaload, 1) := by decide +kernel
theorem dX10_duel_25 : decode mX10_duel.2.1 25 = .ok (.istore_n 2, 1) := by decide +kernel
theorem dX10_duel_26 : decode mX10_duel.2.1 26 = .ok (.aload_n 0, 1) := by decide +kernel
theorem dX10_duel_27 : decode mX10_duel.2.1 27 = .ok (.getfield 81, 3) := by decide +kernel
theorem dX10_duel_30 : decode mX10_duel.2.1 30 = .ok (.iload_n 1, 1) := by decide +kernel
theorem dX10_duel_31 : decode mX10_duel.2.1 31 = .ok (.iaload, 1) := by decide +kernel
theorem dX10_duel_32 : decode mX10_duel.2.1 32 = .ok (.istore_n 3, 1) := by decide +kernel
theorem dX10_duel_33 : decode mX10_duel.2.1 33 = .ok (.iconst 0, 1) := by decide +kernel
theorem dX10_duel_34 : decode mX10_duel.2.1 34 = .ok (.istore 4, 2) := by decide +kernel
theorem dX10_duel_36 : decode mX10_duel.2.1 36 = .ok (.iload 4, 2) := by decide +kernel
theorem dX10_duel_38 : decode mX10_duel.2.1 38 = .ok (.iconst 4, 1) := by decide +kernel
theorem dX10_duel_39 : decode mX10_duel.2.1 39 = .ok (.if_icmp .ge 109, 3) := by decide +kernel
theorem dX10_duel_42 : decode mX10_duel.2.1 42 = .ok (.bipush 30, 2) := by decide +kernel
theorem dX10_duel_44 : decode mX10_duel.2.1 44 = .ok (.aload_n 0, 1) := by decide +kernel
theorem dX10_duel_45 : decode mX10_duel.2.1 45 = .ok (.getfield 102, 3) := by decide +kernel
theorem dX10_duel_48 : decode mX10_duel.2.1 48 = .ok (.iload_n 2, 1) := by decide +kernel
theorem dX10_duel_49 : decode mX10_duel.2.1 49 = .ok (.iaload, 1) := by decide +kernel
theorem dX10_duel_50 : decode mX10_duel.2.1 50 = .ok (.iconst 5, 1) := by decide +kernel
theorem dX10_duel_51 : decode mX10_duel.2.1 51 = .ok (.iload 4, 2) := by decide +kernel
theorem dX10_duel_53 : decode mX10_duel.2.1 53 = .ok (.iconst 2, 1) := by decide +kernel
theorem dX10_duel_54 : decode mX10_duel.2.1 54 = .ok (.idiv, 1) := by decide +kernel
theorem dX10_duel_55 : decode mX10_duel.2.1 55 = .ok (.imul, 1) := by decide +kernel
theorem dX10_duel_56 : decode mX10_duel.2.1 56 = .ok (.iadd, 1) := by decide +kernel
theorem dX10_duel_57 : decode mX10_duel.2.1 57 = .ok (.invokestatic 450, 3) := by decide +kernel
theorem dX10_duel_60 : decode mX10_duel.2.1 60 = .ok (.istore 5, 2) := by decide +kernel
theorem dX10_duel_62 : decode mX10_duel.2.1 62 = .ok (.bipush 30, 2) := by decide +kernel
theorem dX10_duel_64 : decode mX10_duel.2.1 64 = .ok (.aload_n 0, 1) := by decide +kernel
theorem dX10_duel_65 : decode mX10_duel.2.1 65 = .ok (.getfield 102, 3) := by decide +kernel
theorem dX10_duel_68 : decode mX10_duel.2.1 68 = .ok (.iload_n 3, 1) := by decide +kernel
theorem dX10_duel_69 : decode mX10_duel.2.1 69 = .ok (.iaload, 1) := by decide +kernel
theorem dX10_duel_70 : decode mX10_duel.2.1 70 = .ok (.iconst 5, 1) := by decide +kernel
theorem dX10_duel_71 : decode mX10_duel.2.1 71 = .ok (.iload 4, 2) := by decide +kernel
theorem dX10_duel_73 : decode mX10_duel.2.1 73 = .ok (.iconst 2, 1) := by decide +kernel
theorem dX10_duel_74 : decode mX10_duel.2.1 74 = .ok (.irem, 1) := by decide +kernel
theorem dX10_duel_75 : decode mX10_duel.2.1 75 = .ok (.imul, 1) := by decide +kernel
theorem dX10_duel_76 : decode mX10_duel.2.1 76 = .ok (.iadd, 1) := by decide +kernel
theorem dX10_duel_77 : decode mX10_duel.2.1 77 = .ok (.invokestatic 450, 3) := by decide +kernel
theorem dX10_duel_80 : decode mX10_duel.2.1 80 = .ok (.istore 6, 2) := by decide +kernel
theorem dX10_duel_82 : decode mX10_duel.2.1 82 = .ok (.aload_n 0, 1) := by decide +kernel
theorem dX10_duel_83 : decode mX10_duel.2.1 83 = .ok (.getfield 117, 3) := by decide +kernel
theorem dX10_duel_86 : decode mX10_duel.2.1 86 = .ok (.iload 4, 2) := by decide +kernel
theorem dX10_duel_88 : decode mX10_duel.2.1 88 = .ok (.aload_n 0, 1) := by decide +kernel
theorem dX10_duel_89 : decode mX10_duel.2.1 89 = .ok (.iload 5, 2) := by decide +kernel
theorem dX10_duel_91 : decode mX10_duel.2.1 91 = .ok (.iload 6, 2) := by decide +kernel
theorem dX10_duel_93 : decode mX10_duel.2.1 93 = .ok (.aload_n 0, 1) := by decide +kernel
theorem dX10_duel_94 : decode mX10_duel.2.1 94 = .ok (.getfield 102, 3) := by decide +kernel
theorem dX10_duel_97 : decode mX10_duel.2.1 97 = .ok (.bipush 6, 2) := by decide +kernel
theorem dX10_duel_99 : decode mX10_duel.2.1 99 = .ok (.iload_n 2, 1) := by decide +kernel
theorem dX10_duel_100 : decode mX10_duel.2.1 100 = .ok (.iadd, 1) := by decide +kernel
theorem dX10_duel_101 : decode mX10_duel.2.1 101 = .ok (.iaload, 1) := by decide +kernel
theorem dX10_duel_102 : decode mX10_duel.2.1 102 = .ok (.invokevirtual 453, 3) := by decide +kernel
theorem dX10_duel_105 : decode mX10_duel.2.1 105 = .ok (.ineg, 1) := by decide +kernel
theorem dX10_duel_106 : decode mX10_duel.2.1 106 = .ok (.iload 4, 2) := by decide +kernel
theorem dX10_duel_108 : decode mX10_duel.2.1 108 = .ok (.iconst 2, 1) := by decide +kernel
theorem dX10_duel_109 : decode mX10_duel.2.1 109 = .ok (.idiv, 1) := by decide +kernel
theorem dX10_duel_110 : decode mX10_duel.2.1 110 = .ok (.isub, 1) := by decide +kernel
theorem dX10_duel_111 : decode mX10_duel.2.1 111 = .ok (.iastore, 1) := by decide +kernel
theorem dX10_duel_112 : decode mX10_duel.2.1 112 = .ok (.aload_n 0, 1) := by decide +kernel
theorem dX10_duel_113 : decode mX10_duel.2.1 113 = .ok (.getfield 120, 3) := by decide +kernel
theorem dX10_duel_116 : decode mX10_duel.2.1 116 = .ok (.iload 4, 2) := by decide +kernel
theorem dX10_duel_118 : decode mX10_duel.2.1 118 = .ok (.aload_n 0, 1) := by decide +kernel
theorem dX10_duel_119 : decode mX10_duel.2.1 119 = .ok (.iload 6, 2) := by decide +kernel
theorem dX10_duel_121 : decode mX10_duel.2.1 121 = .ok (.iload 5, 2) := by decide +kernel
theorem dX10_duel_123 : decode mX10_duel.2.1 123 = .ok (.aload_n 0, 1) := by decide +kernel
theorem dX10_duel_124 : decode mX10_duel.2.1 124 = .ok (.getfield 102, 3) := by decide +kernel
theorem dX10_duel_127 : decode mX10_duel.2.1 127 = .ok (.bipush 6, 2) := by decide +kernel
theorem dX10_duel_129 : decode mX10_duel.2.1 129 = .ok (.iload_n 3, 1) := by decide +kernel
theorem dX10_duel_130 : decode mX10_duel.2.1 130 = .ok (.iadd, 1) := by decide +kernel
theorem dX10_duel_131 : decode mX10_duel.2.1 131 = .ok (.iaload, 1) := by decide +kernel
theorem dX10_duel_132 : decode mX10_duel.2.1 132 = .ok (.invokevirtual 453, 3) := by decide +kernel
theorem dX10_duel_135 : decode mX10_duel.2.1 135 = .ok (.ineg, 1) := by decide +kernel
theorem dX10_duel_136 : decode mX10_duel.2.1 136 = .ok (.iload 4, 2) := by decide +kernel
theorem dX10_duel_138 : decode mX10_duel.2.1 138 = .ok (.iconst 2, 1) := by decide +kernel
theorem dX10_duel_139 : decode mX10_duel.2.1 139 = .ok (.irem, 1) := by decide +kernel
theorem dX10_duel_140 : decode mX10_duel.2.1 140 = .ok (.isub, 1) := by decide +kernel
theorem dX10_duel_141 : decode mX10_duel.2.1 141 = .ok (.iastore, 1) := by decide +kernel
theorem dX10_duel_142 : decode mX10_duel.2.1 142 = .ok (.iinc 4 1, 3) := by decide +kernel
theorem dX10_duel_145 : decode mX10_duel.2.1 145 = .ok (.goto (-109), 3) := by decide +kernel
theorem dX10_duel_148 : decode mX10_duel.2.1 148 = .ok (.iconst 0, 1) := by decide +kernel
theorem dX10_duel_149 : decode mX10_duel.2.1 149 = .ok (.istore 4, 2) := by decide +kernel
theorem dX10_duel_151 : decode mX10_duel.2.1 151 = .ok (.iconst 0, 1) := by decide +kernel
theorem dX10_duel_152 : decode mX10_duel.2.1 152 = .ok (.istore 5, 2) := by decide +kernel
theorem dX10_duel_154 : decode mX10_duel.2.1 154 = .ok (.iload 5, 2) := by decide +kernel
theorem dX10_duel_156 : decode mX10_duel.2.1 156 = .ok (.iconst 4, 1) := by decide +kernel
theorem dX10_duel_157 : decode mX10_duel.2.1 157 = .ok (.if_icmp .ge 94, 3) := by decide +kernel
theorem dX10_duel_160 : decode mX10_duel.2.1 160 = .ok (.aload_n 0, 1) := by decide +kernel
theorem dX10_duel_161 : decode mX10_duel.2.1 161 = .ok (.getfield 117, 3) := by decide +kernel
theorem dX10_duel_164 : decode mX10_duel.2.1 164 = .ok (.iload 5, 2) := by decide +kernel
theorem dX10_duel_166 : decode mX10_duel.2.1 166 = .ok (.iconst 2, 1) := by decide +kernel
theorem dX10_duel_167 : decode mX10_duel.2.1 167 = .ok (.iadd, 1) := by decide +kernel
theorem dX10_duel_168 : decode mX10_duel.2.1 168 = .ok (.iconst 4, 1) := by decide +kernel
theorem dX10_duel_169 : decode mX10_duel.2.1 169 = .ok (.irem, 1) := by decide +kernel
theorem dX10_duel_170 : decode mX10_duel.2.1 170 = .ok (.iaload, 1) := by decide +kernel
theorem dX10_duel_171 : decode mX10_duel.2.1 171 = .ok (.aload_n 0, 1) := by decide +kernel
theorem dX10_duel_172 : decode mX10_duel.2.1 172 = .ok (.getfield 117, 3) := by decide +kernel
theorem dX10_duel_175 : decode mX10_duel.2.1 175 = .ok (.iload 5, 2) := by decide +kernel
theorem dX10_duel_177 : decode mX10_duel.2.1 177 = .ok (.iaload, 1) := by decide +kernel
theorem dX10_duel_178 : decode mX10_duel.2.1 178 = .ok (.if_icmp .gt 67, 3) := by decide +kernel
theorem dX10_duel_181 : decode mX10_duel.2.1 181 = .ok (.aload_n 0, 1) := by decide +kernel
theorem dX10_duel_182 : decode mX10_duel.2.1 182 = .ok (.getfield 120, 3) := by decide +kernel
theorem dX10_duel_185 : decode mX10_duel.2.1 185 = .ok (.iload 5, 2) := by decide +kernel
theorem dX10_duel_187 : decode mX10_duel.2.1 187 = .ok (.iconst 2, 1) := by decide +kernel
theorem dX10_duel_188 : decode mX10_duel.2.1 188 = .ok (.idiv, 1) := by decide +kernel
theorem dX10_duel_189 : decode mX10_duel.2.1 189 = .ok (.iconst 2, 1) := by decide +kernel
theorem dX10_duel_190 : decode mX10_duel.2.1 190 = .ok (.imul, 1) := by decide +kernel
theorem dX10_duel_191 : decode mX10_duel.2.1 191 = .ok (.iconst 1, 1) := by decide +kernel
theorem dX10_duel_192 : decode mX10_duel.2.1 192 = .ok (.iadd, 1) := by decide +kernel
theorem dX10_duel_193 : decode mX10_duel.2.1 193 = .ok (.iload 5, 2) := by decide +kernel
theorem dX10_duel_195 : decode mX10_duel.2.1 195 = .ok (.iconst 2, 1) := by decide +kernel
theorem dX10_duel_196 : decode mX10_duel.2.1 196 = .ok (.irem, 1) := by decide +kernel
theorem dX10_duel_197 : decode mX10_duel.2.1 197 = .ok (.isub, 1) := by decide +kernel
theorem dX10_duel_198 : decode mX10_duel.2.1 198 = .ok (.iaload, 1) := by decide +kernel
theorem dX10_duel_199 : decode mX10_duel.2.1 199 = .ok (.aload_n 0, 1) := by decide +kernel
theorem dX10_duel_200 : decode mX10_duel.2.1 200 = .ok (.getfield 120, 3) := by decide +kernel
theorem dX10_duel_203 : decode mX10_duel.2.1 203 = .ok (.iload 5, 2) := by decide +kernel
theorem dX10_duel_205 : decode mX10_duel.2.1 205 = .ok (.iaload, 1) := by decide +kernel
theorem dX10_duel_206 : decode mX10_duel.2.1 206 = .ok (.if_icmp .le 6, 3) := by decide +kernel
theorem dX10_duel_209 : decode mX10_duel.2.1 209 = .ok (.goto 36, 3) := by decide +kernel
theorem dX10_duel_212 : decode mX10_duel.2.1 212 = .ok (.iload 4, 2) := by decide +kernel
theorem dX10_duel_214 : decode mX10_duel.2.1 214 = .ok (.ifCond .ne 28, 3) := by decide +kernel
theorem dX10_duel_217 : decode mX10_duel.2.1 217 = .ok (.aload_n 0, 1) := by decide +kernel
theorem dX10_duel_218 : decode mX10_duel.2.1 218 = .ok (.getfield 108, 3) := by decide +kernel
theorem dX10_duel_221 : decode mX10_duel.2.1 221 = .ok (.iconst 0, 1) := by decide +kernel
theorem dX10_duel_222 : decode mX10_duel.2.1 222 = .ok (.iload 5, 2) := by decide +kernel
theorem dX10_duel_224 : decode mX10_duel.2.1 224 = .ok (.iconst 2, 1) := by decide +kernel
theorem dX10_duel_225 : decode mX10_duel.2.1 225 = .ok (.idiv, 1) := by decide +kernel
theorem dX10_duel_226 : decode mX10_duel.2.1 226 = .ok (.iastore, 1) := by decide +kernel
theorem dX10_duel_227 : decode mX10_duel.2.1 227 = .ok (.aload_n 0, 1) := by decide +kernel
theorem dX10_duel_228 : decode mX10_duel.2.1 228 = .ok (.getfield 108, 3) := by decide +kernel
theorem dX10_duel_231 : decode mX10_duel.2.1 231 = .ok (.iconst 1, 1) := by decide +kernel
theorem dX10_duel_232 : decode mX10_duel.2.1 232 = .ok (.iload 5, 2) := by decide +kernel
theorem dX10_duel_234 : decode mX10_duel.2.1 234 = .ok (.iconst 2, 1) := by decide +kernel
theorem dX10_duel_235 : decode mX10_duel.2.1 235 = .ok (.irem, 1) := by decide +kernel
theorem dX10_duel_236 : decode mX10_duel.2.1 236 = .ok (.iastore, 1) := by decide +kernel
theorem dX10_duel_237 : decode mX10_duel.2.1 237 = .ok (.aload_n 0, 1) := by decide +kernel
theorem dX10_duel_238 : decode mX10_duel.2.1 238 = .ok (.iconst 2, 1) := by decide +kernel
theorem dX10_duel_239 : decode mX10_duel.2.1 239 = .ok (.putfield 437, 3) := by decide +kernel
theorem dX10_duel_242 : decode mX10_duel.2.1 242 = .ok (.iinc 4 1, 3) := by decide +kernel
theorem dX10_duel_245 : decode mX10_duel.2.1 245 = .ok (.iinc 5 1, 3) := by decide +kernel
theorem dX10_duel_248 : decode mX10_duel.2.1 248 = .ok (.goto (-94), 3) := by decide +kernel
theorem dX10_duel_251 : decode mX10_duel.2.1 251 = .ok (.iload 4, 2) := by decide +kernel
theorem dX10_duel_253 : decode mX10_duel.2.1 253 = .ok (.ireturn, 1) := by decide +kernel
theorem bX10_duel_0 {E : px_E} {d : Nat} {w : pw_W} {Q : Option Value → pw_W → Prop} {t : ct_T} (hw : w.1 = cs t) {x1 : Int32}  
    (k1 : (pX10_isMeeting (pw_sI w 61 68 0) x1) → px_Call E (d + 2) 0 0 mX10_fill [.ref 61] (pw_sI w 61 68 0) (fun v w' => px_W E mX10_duel (d + 3) 0 0 19 [.ref 61, .int x1, .null, .null, .null, .null, .null] (v.toList ++ []) w' Q))
    (k2 : ¬ (pX10_isMeeting (pw_sI w 61 68 0) x1) → Q (some (.int (-1))) (pw_sI w 61 68 0)) :
    px_W E mX10_duel (d + 3) 0 0 0 [.ref 61, .int x1, .null, .null, .null, .null, .null] [] w Q := by
  refine px_aload_n dX10_duel_0 rfl rfl ?_
  refine px_iconst dX10_duel_1 ic_0 ?_
  refine px_putI dX10_duel_2 fl_10_437 (Or.inl rfl) rfl (px_sh1 hw sh_61) rfl rfl (by omega) ?_
  refine px_aload_n dX10_duel_5 rfl rfl ?_
  refine px_iload_n dX10_duel_6 rfl rfl ?_
  refine px_callV (As := [.int x1]) (st := []) (rc := 0) (rs := 0) (mc := 0) (ms := 0) dX10_duel_7 lk_10_483 (px_sh1 (hI hw) sh_61) rfl rfl (Nat.le_of_ble_eq_true rfl) (sX10_isMeeting (w := (pw_sI w 61 68 0)) (hI hw) ?_)
  show px_W E mX10_duel (d + 3) 0 0 10 [.ref 61, .int x1, .null, .null, .null, .null, .null] [.int (jb (pX10_isMeeting (pw_sI w 61 68 0) x1))] (pw_sI w 61 68 0) Q
  refine px_jb_ne (tgt := 15) dX10_duel_10 (by decide) (fun h1 => ?_) (fun h1 => ?_)
  ·
    refine px_aload_n dX10_duel_15 rfl rfl ?_
    exact px_callV (As := []) (st := []) (rc := 0) (rs := 0) (mc := 0) (ms := 0) dX10_duel_16 lk_10_480 (px_sh1 (hI hw) sh_61) rfl rfl (Nat.le_of_ble_eq_true rfl) (k1 h1)
  ·
    refine px_iconst dX10_duel_13 ic_m1 ?_
    exact px_ireturn dX10_duel_14 rfl rfl (k2 h1)
theorem eX10_duel {E : px_E} {d : Nat} {w : pw_W} {Q : Option Value → pw_W → Prop} {t : ct_T} (hw : w.1 = cs t) {x1 : Int32}  
    (k1 : (pX10_isMeeting (pw_sI w 61 68 0) x1) → px_Call E (d + 2) 0 0 mX10_fill [.ref 61] (pw_sI w 61 68 0) (fun v w' => px_W E mX10_duel (d + 3) 0 0 19 [.ref 61, .int x1, .null, .null, .null, .null, .null] (v.toList ++ []) w' Q))
    (k2 : ¬ (pX10_isMeeting (pw_sI w 61 68 0) x1) → Q (some (.int (-1))) (pw_sI w 61 68 0)) :
    px_Call E (d + 3) 0 0 mX10_duel [.ref 61, .int x1] w Q :=
  px_enter (k := 5) (by decide) (Nat.le_of_ble_eq_true rfl) rfl (px_forget (bX10_duel_0 hw k1 k2) ⟨Or.inr rfl, Or.inr rfl, Or.inl rfl, Or.inl rfl, Or.inl rfl, Or.inl rfl, Or.inl rfl, trivial⟩)
theorem bX10_duel_19 {E : px_E} {d : Nat} {w : pw_W} {Q : Option Value → pw_W → Prop} {t : ct_T} (hw : w.1 = cs t) {x1 : Int32}  (j1 : Nat) (hj1 : x1 = nI j1) (hl1 : j1 < 9)
    (k1 : px_W E mX10_duel (d + 3) 0 0 36 [.ref 61, .null, .int (pw_I w 83 j1), .int (pw_I w 84 j1), .int 0, .null, .null] [] w Q) :
    px_W E mX10_duel (d + 3) 0 0 19 [.ref 61, .int x1, .null, .null, .null, .null, .null] [] w Q := by
  refine px_aload_n dX10_duel_19 rfl rfl ?_
  refine px_getR (v := 83) dX10_duel_20 fr_10_78 rfl (px_sh1 hw sh_61) (px_rf hw rf_61_39) (by decide) ?_
  refine px_iload_n dX10_duel_23 rfl rfl ?_
  refine px_iald dX10_duel_24 (px_sh2 hw sh_83) (by decide) j1 hj1 hl1 ?_
  refine px_istore_n (ls' := [.ref 61, .int x1, .int (pw_I w 83 j1), .null, .null, .null, .null]) dX10_duel_25 rfl ⟨by decide, rfl⟩ rfl ?_
  refine px_aload_n dX10_duel_26 rfl rfl ?_
  refine px_getR (v := 84) dX10_duel_27 fr_10_81 rfl (px_sh1 hw sh_61) (px_rf hw rf_61_40) (by decide) ?_
  refine px_iload_n dX10_duel_30 rfl rfl ?_
  refine px_iald dX10_duel_31 (px_sh2 hw sh_84) (by decide) j1 hj1 hl1 ?_
  refine px_istore_n (ls' := [.ref 61, .int x1, .int (pw_I w 83 j1), .int (pw_I w 84 j1), .null, .null, .null]) dX10_duel_32 rfl ⟨by decide, rfl⟩ rfl ?_
  refine px_iconst dX10_duel_33 ic_0 ?_
  refine px_istore (ls' := [.ref 61, .int x1, .int (pw_I w 83 j1), .int (pw_I w 84 j1), .int 0, .null, .null]) dX10_duel_34 ⟨by decide, rfl⟩ rfl ?_
  exact px_forget k1 ⟨Or.inr rfl, Or.inl rfl, Or.inr rfl, Or.inr rfl, Or.inr rfl, Or.inl rfl, Or.inl rfl, trivial⟩
theorem bX10_duel_36 {E : px_E} {d : Nat} {w : pw_W} {Q : Option Value → pw_W → Prop} {t : ct_T} (hw : w.1 = cs t) {x2 x3 x4 : Int32}  
    (k1 : 4 ≤ x4 → px_W E mX10_duel (d + 3) 0 0 154 [.ref 61, .null, .null, .null, .int 0, .int 0, .null] [] w Q)
    (k2 : ¬ 4 ≤ x4 → px_W E mX10_duel (d + 3) 0 0 42 [.ref 61, .null, .int x2, .int x3, .int x4, .null, .null] [] w Q) :
    px_W E mX10_duel (d + 3) 0 0 36 [.ref 61, .null, .int x2, .int x3, .int x4, .null, .null] [] w Q := by
  refine px_iload dX10_duel_36 rfl ?_
  refine px_iconst dX10_duel_38 ic_4 ?_
  refine px_icmp_ge (tgt := 148) dX10_duel_39 (by decide) (fun h1 => ?_) (fun h1 => ?_)
  ·
    refine px_iconst dX10_duel_148 ic_0 ?_
    refine px_istore (ls' := [.ref 61, .null, .int x2, .int x3, .int 0, .null, .null]) dX10_duel_149 ⟨by decide, rfl⟩ rfl ?_
    refine px_iconst dX10_duel_151 ic_0 ?_
    refine px_istore (ls' := [.ref 61, .null, .int x2, .int x3, .int 0, .int 0, .null]) dX10_duel_152 ⟨by decide, rfl⟩ rfl ?_
    exact px_forget (k1 h1) ⟨Or.inr rfl, Or.inl rfl, Or.inl rfl, Or.inl rfl, Or.inr rfl, Or.inr rfl, Or.inl rfl, trivial⟩
  ·
    exact (k2 h1)
theorem bX10_duel_42 {E : px_E} {d : Nat} {w : pw_W} {Q : Option Value → pw_W → Prop} {t : ct_T} (hw : w.1 = cs t) {x2 x3 x4 : Int32}  (j1 : Nat) (hj1 : x2 = nI j1) (hl1 : j1 < 15) (j2 : Nat) (hj2 : x3 = nI j2) (hl2 : j2 < 15) (j3 : Nat) (hj3 : (6 + x2) = nI j3) (hl3 : j3 < 15)
    (k1 : px_Call E (d + 2) 0 0 mX10_touchOf [.ref 61, .int (hX10_lesser 30 ((pw_I w 90 j1) + (5 * (x4 / 2)))), .int (hX10_lesser 30 ((pw_I w 90 j2) + (5 * (js_rem x4 2)))), .int (pw_I w 90 j3)] w (fun v w' => px_W E mX10_duel (d + 3) 0 0 105 [.ref 61, .null, .int x2, .int x3, .int x4, .int (hX10_lesser 30 ((pw_I w 90 j1) + (5 * (x4 / 2)))), .int (hX10_lesser 30 ((pw_I w 90 j2) + (5 * (js_rem x4 2))))] (v.toList ++ [.int x4, .ref 95]) w' Q)) :
    px_W E mX10_duel (d + 3) 0 0 42 [.ref 61, .null, .int x2, .int x3, .int x4, .null, .null] [] w Q := by
  refine px_bipush dX10_duel_42 bp_30 ?_
  refine px_aload_n dX10_duel_44 rfl rfl ?_
  refine px_getR (v := 90) dX10_duel_45 fr_10_102 rfl (px_sh1 hw sh_61) (px_rf hw rf_61_61) (by decide) ?_
  refine px_iload_n dX10_duel_48 rfl rfl ?_
  refine px_iald dX10_duel_49 (px_sh2 hw sh_90) (by decide) j1 hj1 hl1 ?_
  refine px_iconst dX10_duel_50 ic_5 ?_
  refine px_iload dX10_duel_51 rfl ?_
  refine px_iconst dX10_duel_53 ic_2 ?_
  refine px_idiv dX10_duel_54 (by decide) ?_
  refine px_imul dX10_duel_55 ?_
  refine px_iadd dX10_duel_56 ?_
  refine px_callS (As := [.int 30, .int ((pw_I w 90 j1) + (5 * (x4 / 2)))]) (st := []) (rc := 0) (rs := 0) (mc := 0) (ms := 0) dX10_duel_57 lk_10_450 rfl rfl (Nat.le_of_ble_eq_true rfl) (sX10_lesser ?_)
  show px_W E mX10_duel (d + 3) 0 0 60 [.ref 61, .null, .int x2, .int x3, .int x4, .null, .null] [.int (hX10_lesser 30 ((pw_I w 90 j1) + (5 * (x4 / 2))))] w Q
  refine px_istore (ls' := [.ref 61, .null, .int x2, .int x3, .int x4, .int (hX10_lesser 30 ((pw_I w 90 j1) + (5 * (x4 / 2)))), .null]) dX10_duel_60 ⟨by decide, rfl⟩ rfl ?_
  refine px_bipush dX10_duel_62 bp_30 ?_
  refine px_aload_n dX10_duel_64 rfl rfl ?_
  refine px_getR (v := 90) dX10_duel_65 fr_10_102 rfl (px_sh1 hw sh_61) (px_rf hw rf_61_61) (by decide) ?_
  refine px_iload_n dX10_duel_68 rfl rfl ?_
  refine px_iald dX10_duel_69 (px_sh2 hw sh_90) (by decide) j2 hj2 hl2 ?_
  refine px_iconst dX10_duel_70 ic_5 ?_
  refine px_iload dX10_duel_71 rfl ?_
  refine px_iconst dX10_duel_73 ic_2 ?_
  refine px_irem dX10_duel_74 (by decide) ?_
  refine px_imul dX10_duel_75 ?_
  refine px_iadd dX10_duel_76 ?_
  refine px_callS (As := [.int 30, .int ((pw_I w 90 j2) + (5 * (js_rem x4 2)))]) (st := []) (rc := 0) (rs := 0) (mc := 0) (ms := 0) dX10_duel_77 lk_10_450 rfl rfl (Nat.le_of_ble_eq_true rfl) (sX10_lesser ?_)
  show px_W E mX10_duel (d + 3) 0 0 80 [.ref 61, .null, .int x2, .int x3, .int x4, .int (hX10_lesser 30 ((pw_I w 90 j1) + (5 * (x4 / 2)))), .null] [.int (hX10_lesser 30 ((pw_I w 90 j2) + (5 * (js_rem x4 2))))] w Q
  refine px_istore (ls' := [.ref 61, .null, .int x2, .int x3, .int x4, .int (hX10_lesser 30 ((pw_I w 90 j1) + (5 * (x4 / 2)))), .int (hX10_lesser 30 ((pw_I w 90 j2) + (5 * (js_rem x4 2))))]) dX10_duel_80 ⟨by decide, rfl⟩ rfl ?_
  refine px_aload_n dX10_duel_82 rfl rfl ?_
  refine px_getR (v := 95) dX10_duel_83 fr_10_117 rfl (px_sh1 hw sh_61) (px_rf hw rf_61_70) (by decide) ?_
  refine px_iload dX10_duel_86 rfl ?_
  refine px_aload_n dX10_duel_88 rfl rfl ?_
  refine px_iload dX10_duel_89 rfl ?_
  refine px_iload dX10_duel_91 rfl ?_
  refine px_aload_n dX10_duel_93 rfl rfl ?_
  refine px_getR (v := 90) dX10_duel_94 fr_10_102 rfl (px_sh1 hw sh_61) (px_rf hw rf_61_61) (by decide) ?_
  refine px_bipush dX10_duel_97 bp_6 ?_
  refine px_iload_n dX10_duel_99 rfl rfl ?_
  refine px_iadd dX10_duel_100 ?_
  refine px_iald dX10_duel_101 (px_sh2 hw sh_90) (by decide) j3 hj3 hl3 ?_
  exact px_callV (As := [.int (hX10_lesser 30 ((pw_I w 90 j1) + (5 * (x4 / 2)))), .int (hX10_lesser 30 ((pw_I w 90 j2) + (5 * (js_rem x4 2)))), .int (pw_I w 90 j3)]) (st := [.int x4, .ref 95]) (rc := 0) (rs := 0) (mc := 0) (ms := 0) dX10_duel_102 lk_10_453 (px_sh1 hw sh_61) rfl rfl (Nat.le_of_ble_eq_true rfl) k1
theorem bX10_duel_105 {E : px_E} {d : Nat} {w : pw_W} {Q : Option Value → pw_W → Prop} {t : ct_T} (hw : w.1 = cs t) {x2 x3 x4 x5 x6 y1 y2 : Int32}  (j1 : Nat) (hj1 : y1 = nI j1) (hl1 : j1 < 4) (j2 : Nat) (hj2 : (6 + x3) = nI j2) (hl2 : j2 < 15)
    (k1 : px_Call E (d + 2) 0 0 mX10_touchOf [.ref 61, .int x6, .int x5, .int (pw_I w 90 j2)] (pw_sI w 95 j1 ((-y2) - (x4 / 2))) (fun v w' => px_W E mX10_duel (d + 3) 0 0 135 [.ref 61, .null, .int x2, .int x3, .int x4, .null, .null] (v.toList ++ [.int x4, .ref 96]) w' Q)) :
    px_W E mX10_duel (d + 3) 0 0 105 [.ref 61, .null, .int x2, .int x3, .int x4, .int x5, .int x6] [.int y2, .int y1, .ref 95] w Q := by
  refine px_ineg dX10_duel_105 ?_
  refine px_iload dX10_duel_106 rfl ?_
  refine px_iconst dX10_duel_108 ic_2 ?_
  refine px_idiv dX10_duel_109 (by decide) ?_
  refine px_isub dX10_duel_110 ?_
  refine px_iast dX10_duel_111 (px_sh2 hw sh_95) (by decide) j1 hj1 hl1 (by omega) ?_
  refine px_aload_n dX10_duel_112 rfl rfl ?_
  refine px_getR (v := 96) dX10_duel_113 fr_10_120 rfl (px_sh1 (hI hw) sh_61) (px_rf (hI hw) rf_61_71) (by decide) ?_
  refine px_iload dX10_duel_116 rfl ?_
  refine px_aload_n dX10_duel_118 rfl rfl ?_
  refine px_iload dX10_duel_119 rfl ?_
  refine px_iload dX10_duel_121 rfl ?_
  refine px_aload_n dX10_duel_123 rfl rfl ?_
  refine px_getR (v := 90) dX10_duel_124 fr_10_102 rfl (px_sh1 (hI hw) sh_61) (px_rf (hI hw) rf_61_61) (by decide) ?_
  refine px_bipush dX10_duel_127 bp_6 ?_
  refine px_iload_n dX10_duel_129 rfl rfl ?_
  refine px_iadd dX10_duel_130 ?_
  refine px_ialdv (v := (pw_I w 90 j2)) dX10_duel_131 (px_sh2 (hI hw) sh_90) (by decide) j2 hj2 hl2 rfl ?_
  refine px_forget (ls' := [.ref 61, .null, .int x2, .int x3, .int x4, .null, .null]) ?_ ⟨Or.inr rfl, Or.inl rfl, Or.inr rfl, Or.inr rfl, Or.inr rfl, Or.inl rfl, Or.inl rfl, trivial⟩
  exact px_callV (As := [.int x6, .int x5, .int (pw_I w 90 j2)]) (st := [.int x4, .ref 96]) (rc := 0) (rs := 0) (mc := 0) (ms := 0) dX10_duel_132 lk_10_453 (px_sh1 (hI hw) sh_61) rfl rfl (Nat.le_of_ble_eq_true rfl) k1
theorem bX10_duel_135 {E : px_E} {d : Nat} {w : pw_W} {Q : Option Value → pw_W → Prop} {t : ct_T} (hw : w.1 = cs t) {x2 x3 x4 y1 y2 : Int32}  (j1 : Nat) (hj1 : y1 = nI j1) (hl1 : j1 < 4)
    (k1 : px_W E mX10_duel (d + 3) 0 0 36 [.ref 61, .null, .int x2, .int x3, .int (x4 + 1), .null, .null] [] (pw_sI w 96 j1 ((-y2) - (js_rem x4 2))) Q) :
    px_W E mX10_duel (d + 3) 0 0 135 [.ref 61, .null, .int x2, .int x3, .int x4, .null, .null] [.int y2, .int y1, .ref 96] w Q := by
  refine px_ineg dX10_duel_135 ?_
  refine px_iload dX10_duel_136 rfl ?_
  refine px_iconst dX10_duel_138 ic_2 ?_
  refine px_irem dX10_duel_139 (by decide) ?_
  refine px_isub dX10_duel_140 ?_
  refine px_iast dX10_duel_141 (px_sh2 hw sh_96) (by decide) j1 hj1 hl1 (by omega) ?_
  refine px_iinc (ls' := [.ref 61, .null, .int x2, .int x3, .int (x4 + 1), .null, .null]) dX10_duel_142 ⟨by decide, rfl⟩ rfl rfl rfl ?_
  refine px_goto (tgt := 36) dX10_duel_145 (by decide) ?_
  exact k1
theorem bX10_duel_154 {E : px_E} {d : Nat} {w : pw_W} {Q : Option Value → pw_W → Prop} {t : ct_T} (hw : w.1 = cs t) {x4 x5 : Int32}  
    (k1 : 4 ≤ x5 → Q (some (.int x4)) w)
    (k2 : ¬ 4 ≤ x5 → px_W E mX10_duel (d + 3) 0 0 160 [.ref 61, .null, .null, .null, .int x4, .int x5, .null] [] w Q) :
    px_W E mX10_duel (d + 3) 0 0 154 [.ref 61, .null, .null, .null, .int x4, .int x5, .null] [] w Q := by
  refine px_iload dX10_duel_154 rfl ?_
  refine px_iconst dX10_duel_156 ic_4 ?_
  refine px_icmp_ge (tgt := 251) dX10_duel_157 (by decide) (fun h1 => ?_) (fun h1 => ?_)
  ·
    refine px_iload dX10_duel_251 rfl ?_
    exact px_ireturn dX10_duel_253 rfl rfl (k1 h1)
  ·
    exact (k2 h1)
theorem bX10_duel_160 {E : px_E} {d : Nat} {w : pw_W} {Q : Option Value → pw_W → Prop} {t : ct_T} (hw : w.1 = cs t) {x4 x5 : Int32}  (j1 : Nat) (hj1 : (js_rem (x5 + 2) 4) = nI j1) (hl1 : j1 < 4) (j2 : Nat) (hj2 : x5 = nI j2) (hl2 : j2 < 4)
    (k1 : (pw_I w 95 j2) < (pw_I w 95 j1) → px_W E mX10_duel (d + 3) 0 0 245 [.ref 61, .null, .null, .null, .int x4, .int x5, .null] [] w Q)
    (k2 : ¬ (pw_I w 95 j2) < (pw_I w 95 j1) → px_W E mX10_duel (d + 3) 0 0 181 [.ref 61, .null, .null, .null, .int x4, .int x5, .null] [] w Q) :
    px_W E mX10_duel (d + 3) 0 0 160 [.ref 61, .null, .null, .null, .int x4, .int x5, .null] [] w Q := by
  refine px_aload_n dX10_duel_160 rfl rfl ?_
  refine px_getR (v := 95) dX10_duel_161 fr_10_117 rfl (px_sh1 hw sh_61) (px_rf hw rf_61_70) (by decide) ?_
  refine px_iload dX10_duel_164 rfl ?_
  refine px_iconst dX10_duel_166 ic_2 ?_
  refine px_iadd dX10_duel_167 ?_
  refine px_iconst dX10_duel_168 ic_4 ?_
  refine px_irem dX10_duel_169 (by decide) ?_
  refine px_iald dX10_duel_170 (px_sh2 hw sh_95) (by decide) j1 hj1 hl1 ?_
  refine px_aload_n dX10_duel_171 rfl rfl ?_
  refine px_getR (v := 95) dX10_duel_172 fr_10_117 rfl (px_sh1 hw sh_61) (px_rf hw rf_61_70) (by decide) ?_
  refine px_iload dX10_duel_175 rfl ?_
  refine px_iald dX10_duel_177 (px_sh2 hw sh_95) (by decide) j2 hj2 hl2 ?_
  refine px_icmp_gt (tgt := 245) dX10_duel_178 (by decide) (fun h1 => ?_) (fun h1 => ?_)
  ·
    exact (k1 h1)
  ·
    exact (k2 h1)
theorem bX10_duel_181 {E : px_E} {d : Nat} {w : pw_W} {Q : Option Value → pw_W → Prop} {t : ct_T} (hw : w.1 = cs t) {x4 x5 : Int32}  (j1 : Nat) (hj1 : ((((x5 / 2) * 2) + 1) - (js_rem x5 2)) = nI j1) (hl1 : j1 < 4) (j2 : Nat) (hj2 : x5 = nI j2) (hl2 : j2 < 4)
    (k1 : (pw_I w 96 j1) ≤ (pw_I w 96 j2) → ¬ x4 = 0 → px_W E mX10_duel (d + 3) 0 0 242 [.ref 61, .null, .null, .null, .int x4, .int x5, .null] [] w Q)
    (k2 : (pw_I w 96 j1) ≤ (pw_I w 96 j2) → x4 = 0 → px_W E mX10_duel (d + 3) 0 0 217 [.ref 61, .null, .null, .null, .int x4, .int x5, .null] [] w Q)
    (k3 : ¬ (pw_I w 96 j1) ≤ (pw_I w 96 j2) → px_W E mX10_duel (d + 3) 0 0 245 [.ref 61, .null, .null, .null, .int x4, .int x5, .null] [] w Q) :
    px_W E mX10_duel (d + 3) 0 0 181 [.ref 61, .null, .null, .null, .int x4, .int x5, .null] [] w Q := by
  refine px_aload_n dX10_duel_181 rfl rfl ?_
  refine px_getR (v := 96) dX10_duel_182 fr_10_120 rfl (px_sh1 hw sh_61) (px_rf hw rf_61_71) (by decide) ?_
  refine px_iload dX10_duel_185 rfl ?_
  refine px_iconst dX10_duel_187 ic_2 ?_
  refine px_idiv dX10_duel_188 (by decide) ?_
  refine px_iconst dX10_duel_189 ic_2 ?_
  refine px_imul dX10_duel_190 ?_
  refine px_iconst dX10_duel_191 ic_1 ?_
  refine px_iadd dX10_duel_192 ?_
  refine px_iload dX10_duel_193 rfl ?_
  refine px_iconst dX10_duel_195 ic_2 ?_
  refine px_irem dX10_duel_196 (by decide) ?_
  refine px_isub dX10_duel_197 ?_
  refine px_iald dX10_duel_198 (px_sh2 hw sh_96) (by decide) j1 hj1 hl1 ?_
  refine px_aload_n dX10_duel_199 rfl rfl ?_
  refine px_getR (v := 96) dX10_duel_200 fr_10_120 rfl (px_sh1 hw sh_61) (px_rf hw rf_61_71) (by decide) ?_
  refine px_iload dX10_duel_203 rfl ?_
  refine px_iald dX10_duel_205 (px_sh2 hw sh_96) (by decide) j2 hj2 hl2 ?_
  refine px_icmp_le (tgt := 212) dX10_duel_206 (by decide) (fun h1 => ?_) (fun h1 => ?_)
  ·
    refine px_iload dX10_duel_212 rfl ?_
    refine px_if_ne (tgt := 242) dX10_duel_214 (by decide) (fun h2 => ?_) (fun h2 => ?_)
    ·
      exact (k1 h1 h2)
    ·
      exact (k2 h1 h2)
  ·
    refine px_goto (tgt := 245) dX10_duel_209 (by decide) ?_
    exact (k3 h1)
theorem bX10_duel_217 {E : px_E} {d : Nat} {w : pw_W} {Q : Option Value → pw_W → Prop} {t : ct_T} (hw : w.1 = cs t) {x4 x5 : Int32}  
    (k1 : px_W E mX10_duel (d + 3) 0 0 242 [.ref 61, .null, .null, .null, .int x4, .int x5, .null] [] (pw_sI (pw_sI (pw_sI w 92 0 (x5 / 2)) 92 1 (js_rem x5 2)) 61 68 2) Q) :
    px_W E mX10_duel (d + 3) 0 0 217 [.ref 61, .null, .null, .null, .int x4, .int x5, .null] [] w Q := by
  refine px_aload_n dX10_duel_217 rfl rfl ?_
  refine px_getR (v := 92) dX10_duel_218 fr_10_108 rfl (px_sh1 hw sh_61) (px_rf hw rf_61_65) (by decide) ?_
  refine px_iconst dX10_duel_221 ic_0 ?_
  refine px_iload dX10_duel_222 rfl ?_
  refine px_iconst dX10_duel_224 ic_2 ?_
  refine px_idiv dX10_duel_225 (by decide) ?_
  refine px_iast dX10_duel_226 (px_sh2 hw sh_92) (by decide) 0 rfl (by decide) (by omega) ?_
  refine px_aload_n dX10_duel_227 rfl rfl ?_
  refine px_getR (v := 92) dX10_duel_228 fr_10_108 rfl (px_sh1 (hI hw) sh_61) (px_rf (hI hw) rf_61_65) (by decide) ?_
  refine px_iconst dX10_duel_231 ic_1 ?_
  refine px_iload dX10_duel_232 rfl ?_
  refine px_iconst dX10_duel_234 ic_2 ?_
  refine px_irem dX10_duel_235 (by decide) ?_
  refine px_iast dX10_duel_236 (px_sh2 (hI hw) sh_92) (by decide) 1 rfl (by decide) (by omega) ?_
  refine px_aload_n dX10_duel_237 rfl rfl ?_
  refine px_iconst dX10_duel_238 ic_2 ?_
  refine px_putI dX10_duel_239 fl_10_437 (Or.inl rfl) rfl (px_sh1 (hI (hI hw)) sh_61) rfl rfl (by omega) ?_
  exact k1
theorem bX10_duel_242 {E : px_E} {d : Nat} {w : pw_W} {Q : Option Value → pw_W → Prop} {t : ct_T} (hw : w.1 = cs t) {x4 x5 : Int32}  
    (k1 : px_W E mX10_duel (d + 3) 0 0 245 [.ref 61, .null, .null, .null, .int (x4 + 1), .int x5, .null] [] w Q) :
    px_W E mX10_duel (d + 3) 0 0 242 [.ref 61, .null, .null, .null, .int x4, .int x5, .null] [] w Q := by
  refine px_iinc (ls' := [.ref 61, .null, .null, .null, .int (x4 + 1), .int x5, .null]) dX10_duel_242 ⟨by decide, rfl⟩ rfl rfl rfl ?_
  exact k1
theorem bX10_duel_245 {E : px_E} {d : Nat} {w : pw_W} {Q : Option Value → pw_W → Prop} {t : ct_T} (hw : w.1 = cs t) {x4 x5 : Int32}  
    (k1 : px_W E mX10_duel (d + 3) 0 0 154 [.ref 61, .null, .null, .null, .int x4, .int (x5 + 1), .null] [] w Q) :
    px_W E mX10_duel (d + 3) 0 0 245 [.ref 61, .null, .null, .null, .int x4, .int x5, .null] [] w Q := by
  refine px_iinc (ls' := [.ref 61, .null, .null, .null, .int x4, .int (x5 + 1), .null]) dX10_duel_245 ⟨by decide, rfl⟩ rfl rfl rfl ?_
  refine px_goto (tgt := 154) dX10_duel_248 (by decide) ?_
  exact k1
theorem dX10_meetingsOf_0 : decode mX10_meetingsOf.2.1 0 = .ok (.iconst 0, 1) := by decide +kernel
theorem dX10_meetingsOf_1 : decode mX10_meetingsOf.2.1 1 = .ok (.istore_n 2, 1) := by decide +kernel
theorem dX10_meetingsOf_2 : decode mX10_meetingsOf.2.1 2 = .ok (.iconst 0, 1) := by decide +kernel
theorem dX10_meetingsOf_3 : decode mX10_meetingsOf.2.1 3 = .ok (.istore_n 3, 1) := by decide +kernel
theorem dX10_meetingsOf_4 : decode mX10_meetingsOf.2.1 4 = .ok (.iload_n 3, 1) := by decide +kernel
theorem dX10_meetingsOf_5 : decode mX10_meetingsOf.2.1 5 = .ok (.aload_n 0, 1) := by decide +kernel
theorem dX10_meetingsOf_6 : decode mX10_meetingsOf.2.1 6 = .ok (.getfield 407, 3) := by decide +kernel
theorem dX10_meetingsOf_9 : decode mX10_meetingsOf.2.1 9 = .ok (.if_icmp .ge 42, 3) := by decide +kernel
theorem dX10_meetingsOf_12 : decode mX10_meetingsOf.2.1 12 = .ok (.iload_n 2, 1) := by decide +kernel
theorem dX10_meetingsOf_13 : decode mX10_meetingsOf.2.1 13 = .ok (.aload_n 0, 1) := by decide +kernel
theorem dX10_meetingsOf_14 : decode mX10_meetingsOf.2.1 14 = .ok (.getfield 78, 3) := by decide +kernel
theorem dX10_meetingsOf_17 : decode mX10_meetingsOf.2.1 17 = .ok (.iload_n 3, 1) := by decide +kernel
theorem dX10_meetingsOf_18 : decode mX10_meetingsOf.2.1 18 = .ok (.iaload, 1) := by decide +kernel
theorem dX10_meetingsOf_19 : decode mX10_meetingsOf.2.1 19 = .ok (.iload_n 1, 1) := by decide +kernel
theorem dX10_meetingsOf_20 : decode mX10_meetingsOf.2.1 20 = .ok (.if_icmp .eq 13, 3) := by decide +kernel
theorem dX10_meetingsOf_23 : decode mX10_meetingsOf.2.1 23 = .ok (.aload_n 0, 1) := by decide +kernel
theorem dX10_meetingsOf_24 : decode mX10_meetingsOf.2.1 24 = .ok (.getfield 81, 3) := by decide +kernel
theorem dX10_meetingsOf_27 : decode mX10_meetingsOf.2.1 27 = .ok (.iload_n 3, 1) := by decide +kernel
theorem dX10_meetingsOf_28 : decode mX10_meetingsOf.2.1 28 = .ok (.iaload, 1) := by decide +kernel
theorem dX10_meetingsOf_29 : decode mX10_meetingsOf.2.1 29 = .ok (.iload_n 1, 1) := by decide +kernel
theorem dX10_meetingsOf_30 : decode mX10_meetingsOf.2.1 30 = .ok (.if_icmp .ne 7, 3) := by decide +kernel
theorem dX10_meetingsOf_33 : decode mX10_meetingsOf.2.1 33 = .ok (.iconst 1, 1) := by decide +kernel
theorem dX10_meetingsOf_34 : decode mX10_meetingsOf.2.1 34 = .ok (.goto 4, 3) := by decide +kernel
theorem dX10_meetingsOf_37 : decode mX10_meetingsOf.2.1 37 = .ok (.iconst 0, 1) := by decide +kernel
theorem dX10_meetingsOf_38 : decode mX10_meetingsOf.2.1 38 = .ok (.invokestatic 332, 3) := by decide +kernel
theorem dX10_meetingsOf_41 : decode mX10_meetingsOf.2.1 41 = .ok (.iload_n 3, 1) := by decide +kernel
theorem dX10_meetingsOf_42 : decode mX10_meetingsOf.2.1 42 = .ok (.ishl, 1) := by decide +kernel
theorem dX10_meetingsOf_43 : decode mX10_meetingsOf.2.1 43 = .ok (.ior, 1) := by decide +kernel
theorem dX10_meetingsOf_44 : decode mX10_meetingsOf.2.1 44 = .ok (.istore_n 2, 1) := by decide +kernel
theorem dX10_meetingsOf_45 : decode mX10_meetingsOf.2.1 45 = .ok (.iinc 3 1, 3) := by decide +kernel
theorem dX10_meetingsOf_48 : decode mX10_meetingsOf.2.1 48 = .ok (.goto (-44), 3) := by decide +kernel
theorem dX10_meetingsOf_51 : decode mX10_meetingsOf.2.1 51 = .ok (.iload_n 2, 1) := by decide +kernel
theorem dX10_meetingsOf_52 : decode mX10_meetingsOf.2.1 52 = .ok (.ireturn, 1) := by decide +kernel
theorem bX10_meetingsOf_0 {E : px_E} {d : Nat} {w : pw_W} {Q : Option Value → pw_W → Prop} {t : ct_T} (hw : w.1 = cs t) {x1 : Int32}  
    (k1 : px_W E mX10_meetingsOf (d + 2) 0 0 4 [.ref 61, .int x1, .int 0, .int 0] [] w Q) :
    px_W E mX10_meetingsOf (d + 2) 0 0 0 [.ref 61, .int x1, .null, .null] [] w Q := by
  refine px_iconst dX10_meetingsOf_0 ic_0 ?_
  refine px_istore_n (ls' := [.ref 61, .int x1, .int 0, .null]) dX10_meetingsOf_1 rfl ⟨by decide, rfl⟩ rfl ?_
  refine px_iconst dX10_meetingsOf_2 ic_0 ?_
  refine px_istore_n (ls' := [.ref 61, .int x1, .int 0, .int 0]) dX10_meetingsOf_3 rfl ⟨by decide, rfl⟩ rfl ?_
  exact k1
theorem eX10_meetingsOf {E : px_E} {d : Nat} {w : pw_W} {Q : Option Value → pw_W → Prop} {t : ct_T} (hw : w.1 = cs t) {x1 : Int32}  
    (k1 : px_W E mX10_meetingsOf (d + 2) 0 0 4 [.ref 61, .int x1, .int 0, .int 0] [] w Q) :
    px_Call E (d + 2) 0 0 mX10_meetingsOf [.ref 61, .int x1] w Q :=
  px_enter (k := 2) (by decide) (Nat.le_of_ble_eq_true rfl) rfl (px_forget (bX10_meetingsOf_0 hw k1) ⟨Or.inr rfl, Or.inr rfl, Or.inl rfl, Or.inl rfl, trivial⟩)
theorem bX10_meetingsOf_4 {E : px_E} {d : Nat} {w : pw_W} {Q : Option Value → pw_W → Prop} {t : ct_T} (hw : w.1 = cs t) {x1 x2 x3 : Int32}  
    (k1 : (pw_I w 61 52) ≤ x3 → Q (some (.int x2)) w)
    (k2 : ¬ (pw_I w 61 52) ≤ x3 → px_W E mX10_meetingsOf (d + 2) 0 0 12 [.ref 61, .int x1, .int x2, .int x3] [] w Q) :
    px_W E mX10_meetingsOf (d + 2) 0 0 4 [.ref 61, .int x1, .int x2, .int x3] [] w Q := by
  refine px_iload_n dX10_meetingsOf_4 rfl rfl ?_
  refine px_aload_n dX10_meetingsOf_5 rfl rfl ?_
  refine px_getI dX10_meetingsOf_6 fr_10_407 rfl (px_sh1 hw sh_61) ?_
  refine px_icmp_ge (tgt := 51) dX10_meetingsOf_9 (by decide) (fun h1 => ?_) (fun h1 => ?_)
  ·
    refine px_iload_n dX10_meetingsOf_51 rfl rfl ?_
    exact px_ireturn dX10_meetingsOf_52 rfl rfl (k1 h1)
  ·
    exact (k2 h1)
theorem bX10_meetingsOf_12 {E : px_E} {d : Nat} {w : pw_W} {Q : Option Value → pw_W → Prop} {t : ct_T} (hw : w.1 = cs t) {x1 x2 x3 : Int32}  (j1 : Nat) (hj1 : x3 = nI j1) (hl1 : j1 < 9)
    (k1 : (pw_I w 83 j1) = x1 → px_W E mX10_meetingsOf (d + 2) 0 0 33 [.ref 61, .int x1, .null, .int x3] [.int x2] w Q)
    (k2 : ¬ (pw_I w 83 j1) = x1 → px_W E mX10_meetingsOf (d + 2) 0 0 23 [.ref 61, .int x1, .null, .int x3] [.int x2] w Q) :
    px_W E mX10_meetingsOf (d + 2) 0 0 12 [.ref 61, .int x1, .int x2, .int x3] [] w Q := by
  refine px_iload_n dX10_meetingsOf_12 rfl rfl ?_
  refine px_aload_n dX10_meetingsOf_13 rfl rfl ?_
  refine px_getR (v := 83) dX10_meetingsOf_14 fr_10_78 rfl (px_sh1 hw sh_61) (px_rf hw rf_61_39) (by decide) ?_
  refine px_iload_n dX10_meetingsOf_17 rfl rfl ?_
  refine px_iald dX10_meetingsOf_18 (px_sh2 hw sh_83) (by decide) j1 hj1 hl1 ?_
  refine px_iload_n dX10_meetingsOf_19 rfl rfl ?_
  refine px_icmp_eq (tgt := 33) dX10_meetingsOf_20 (by decide) (fun h1 => ?_) (fun h1 => ?_)
  ·
    exact px_forget (k1 h1) ⟨Or.inr rfl, Or.inr rfl, Or.inl rfl, Or.inr rfl, trivial⟩
  ·
    exact px_forget (k2 h1) ⟨Or.inr rfl, Or.inr rfl, Or.inl rfl, Or.inr rfl, trivial⟩
theorem bX10_meetingsOf_23 {E : px_E} {d : Nat} {w : pw_W} {Q : Option Value → pw_W → Prop} {t : ct_T} (hw : w.1 = cs t) {x1 x3 y0 : Int32}  (j1 : Nat) (hj1 : x3 = nI j1) (hl1 : j1 < 9)
    (k1 : ¬ (pw_I w 84 j1) = x1 → px_W E mX10_meetingsOf (d + 2) 0 0 38 [.ref 61, .int x1, .null, .int x3] [.int 0, .int y0] w Q)
    (k2 : (pw_I w 84 j1) = x1 → px_W E mX10_meetingsOf (d + 2) 0 0 33 [.ref 61, .int x1, .null, .int x3] [.int y0] w Q) :
    px_W E mX10_meetingsOf (d + 2) 0 0 23 [.ref 61, .int x1, .null, .int x3] [.int y0] w Q := by
  refine px_aload_n dX10_meetingsOf_23 rfl rfl ?_
  refine px_getR (v := 84) dX10_meetingsOf_24 fr_10_81 rfl (px_sh1 hw sh_61) (px_rf hw rf_61_40) (by decide) ?_
  refine px_iload_n dX10_meetingsOf_27 rfl rfl ?_
  refine px_iald dX10_meetingsOf_28 (px_sh2 hw sh_84) (by decide) j1 hj1 hl1 ?_
  refine px_iload_n dX10_meetingsOf_29 rfl rfl ?_
  refine px_icmp_ne (tgt := 37) dX10_meetingsOf_30 (by decide) (fun h1 => ?_) (fun h1 => ?_)
  ·
    refine px_iconst dX10_meetingsOf_37 ic_0 ?_
    exact (k1 h1)
  ·
    exact (k2 h1)
theorem bX10_meetingsOf_33 {E : px_E} {d : Nat} {w : pw_W} {Q : Option Value → pw_W → Prop} {t : ct_T} (hw : w.1 = cs t) {x1 x3 y0 : Int32}  
    (k1 : px_W E mX10_meetingsOf (d + 2) 0 0 38 [.ref 61, .int x1, .null, .int x3] [.int 1, .int y0] w Q) :
    px_W E mX10_meetingsOf (d + 2) 0 0 33 [.ref 61, .int x1, .null, .int x3] [.int y0] w Q := by
  refine px_iconst dX10_meetingsOf_33 ic_1 ?_
  refine px_goto (tgt := 38) dX10_meetingsOf_34 (by decide) ?_
  exact k1
theorem bX10_meetingsOf_38 {E : px_E} {d : Nat} {w : pw_W} {Q : Option Value → pw_W → Prop} {t : ct_T} (hw : w.1 = cs t) {x1 x3 y0 y1 : Int32}  
    (k1 : px_W E mX10_meetingsOf (d + 2) 0 0 4 [.ref 61, .int x1, .int (y0 ||| (js_shl (hX10_truth y1) x3)), .int (x3 + 1)] [] w Q) :
    px_W E mX10_meetingsOf (d + 2) 0 0 38 [.ref 61, .int x1, .null, .int x3] [.int y1, .int y0] w Q := by
  refine px_callS (As := [.int y1]) (st := [.int y0]) (rc := 0) (rs := 0) (mc := 0) (ms := 0) dX10_meetingsOf_38 lk_10_332 rfl rfl (Nat.le_of_ble_eq_true rfl) (sX10_truth ?_)
  show px_W E mX10_meetingsOf (d + 2) 0 0 41 [.ref 61, .int x1, .null, .int x3] [.int (hX10_truth y1), .int y0] w Q
  refine px_iload_n dX10_meetingsOf_41 rfl rfl ?_
  refine px_ishl dX10_meetingsOf_42 ?_
  refine px_ior dX10_meetingsOf_43 ?_
  refine px_istore_n (ls' := [.ref 61, .int x1, .int (y0 ||| (js_shl (hX10_truth y1) x3)), .int x3]) dX10_meetingsOf_44 rfl ⟨by decide, rfl⟩ rfl ?_
  refine px_iinc (ls' := [.ref 61, .int x1, .int (y0 ||| (js_shl (hX10_truth y1) x3)), .int (x3 + 1)]) dX10_meetingsOf_45 ⟨by decide, rfl⟩ rfl rfl rfl ?_
  refine px_goto (tgt := 4) dX10_meetingsOf_48 (by decide) ?_
  exact k1
theorem dX10_scourge_0 : decode mX10_scourge.2.1 0 = .ok (.iload_n 1, 1) := by decide +kernel
theorem dX10_scourge_1 : decode mX10_scourge.2.1 1 = .ok (.iconst 0, 1) := by decide +kernel
theorem dX10_scourge_2 : decode mX10_scourge.2.1 2 = .ok (.iconst 1, 1) := by decide +kernel
theorem dX10_scourge_3 : decode mX10_scourge.2.1 3 = .ok (.invokestatic 440, 3) := by decide +kernel
theorem dX10_scourge_6 : decode mX10_scourge.2.1 6 = .ok (.ifCond .ne 5, 3) := by decide +kernel
theorem dX10_scourge_9 : decode mX10_scourge.2.1 9 = .ok (.iconst (-1), 1) := by decide +kernel
theorem dX10_scourge_10 : decode mX10_scourge.2.1 10 = .ok (.ireturn, 1) := by decide +kernel
theorem dX10_scourge_11 : decode mX10_scourge.2.1 11 = .ok (.iconst (-1), 1) := by decide +kernel
theorem dX10_scourge_12 : decode mX10_scourge.2.1 12 = .ok (.istore_n 2, 1) := by decide +kernel
theorem dX10_scourge_13 : decode mX10_scourge.2.1 13 = .ok (.ldc_w 526, 3) := by decide +kernel
theorem dX10_scourge_16 : decode mX10_scourge.2.1 16 = .ok (.istore_n 3, 1) := by decide +kernel
theorem dX10_scourge_17 : decode mX10_scourge.2.1 17 = .ok (.iconst 0, 1) := by decide +kernel
theorem dX10_scourge_18 : decode mX10_scourge.2.1 18 = .ok (.istore 4, 2) := by decide +kernel
theorem dX10_scourge_20 : decode mX10_scourge.2.1 20 = .ok (.iload 4, 2) := by decide +kernel
theorem dX10_scourge_22 : decode mX10_scourge.2.1 22 = .ok (.aload_n 0, 1) := by decide +kernel
theorem dX10_scourge_23 : decode mX10_scourge.2.1 23 = .ok (.getfield 404, 3) := by decide +kernel
theorem dX10_scourge_26 : decode mX10_scourge.2.1 26 = .ok (.if_icmp .ge 52, 3) := by decide +kernel
theorem dX10_scourge_29 : decode mX10_scourge.2.1 29 = .ok (.aload_n 0, 1) := by decide +kernel
theorem dX10_scourge_30 : decode mX10_scourge.2.1 30 = .ok (.invokevirtual 480, 3) := by decide +kernel
theorem dX10_scourge_33 : decode mX10_scourge.2.1 33 = .ok (.aload_n 0, 1) := by decide +kernel
theorem dX10_scourge_34 : decode mX10_scourge.2.1 34 = .ok (.getfield 102, 3) := by decide +kernel
theorem dX10_scourge_37 : decode mX10_scourge.2.1 37 = .ok (.bipush 12, 2) := by decide +kernel
theorem dX10_scourge_39 : decode mX10_scourge.2.1 39 = .ok (.dup2, 1) := by decide +kernel
theorem dX10_scourge_40 : decode mX10_scourge.2.1 40 = .ok (.iaload, 1) := by decide +kernel
theorem dX10_scourge_41 : decode mX10_scourge.2.1 41 = .ok (.aload_n 0, 1) := by decide +kernel
theorem dX10_scourge_42 : decode mX10_scourge.2.1 42 = .ok (.iload 4, 2) := by decide +kernel
theorem dX10_scourge_44 : decode mX10_scourge.2.1 44 = .ok (.invokevirtual 542, 3) := by decide +kernel
theorem dX10_scourge_47 : decode mX10_scourge.2.1 47 = .ok (.ior, 1) := by decide +kernel
theorem dX10_scourge_48 : decode mX10_scourge.2.1 48 = .ok (.iastore, 1) := by decide +kernel
theorem dX10_scourge_49 : decode mX10_scourge.2.1 49 = .ok (.aload_n 0, 1) := by decide +kernel
theorem dX10_scourge_50 : decode mX10_scourge.2.1 50 = .ok (.bipush 7, 2) := by decide +kernel
theorem dX10_scourge_52 : decode mX10_scourge.2.1 52 = .ok (.invokevirtual 507, 3) := by decide +kernel
theorem dX10_scourge_55 : decode mX10_scourge.2.1 55 = .ok (.istore 5, 2) := by decide +kernel
theorem dX10_scourge_57 : decode mX10_scourge.2.1 57 = .ok (.iload 5, 2) := by decide +kernel
theorem dX10_scourge_59 : decode mX10_scourge.2.1 59 = .ok (.iload_n 3, 1) := by decide +kernel
theorem dX10_scourge_60 : decode mX10_scourge.2.1 60 = .ok (.if_icmp .lt 6, 3) := by decide +kernel
theorem dX10_scourge_63 : decode mX10_scourge.2.1 63 = .ok (.goto 9, 3) := by decide +kernel
theorem dX10_scourge_66 : decode mX10_scourge.2.1 66 = .ok (.iload 4, 2) := by decide +kernel
theorem dX10_scourge_68 : decode mX10_scourge.2.1 68 = .ok (.istore_n 2, 1) := by decide +kernel
theorem dX10_scourge_69 : decode mX10_scourge.2.1 69 = .ok (.iload 5, 2) := by decide +kernel
theorem dX10_scourge_71 : decode mX10_scourge.2.1 71 = .ok (.istore_n 3, 1) := by decide +kernel
theorem dX10_scourge_72 : decode mX10_scourge.2.1 72 = .ok (.iinc 4 1, 3) := by decide +kernel
theorem dX10_scourge_75 : decode mX10_scourge.2.1 75 = .ok (.goto (-55), 3) := by decide +kernel
theorem dX10_scourge_78 : decode mX10_scourge.2.1 78 = .ok (.iload_n 2, 1) := by decide +kernel
theorem dX10_scourge_79 : decode mX10_scourge.2.1 79 = .ok (.ifCond .ge 7, 3) := by decide +kernel
theorem dX10_scourge_82 : decode mX10_scourge.2.1 82 = .ok (.iconst (-1), 1) := by decide +kernel
theorem dX10_scourge_83 : decode mX10_scourge.2.1 83 = .ok (.goto 12, 3) := by decide +kernel
theorem dX10_scourge_86 : decode mX10_scourge.2.1 86 = .ok (.iload_n 1, 1) := by decide +kernel
theorem dX10_scourge_87 : decode mX10_scourge.2.1 87 = .ok (.ifCond .ne 7, 3) := by decide +kernel
theorem dX10_scourge_90 : decode mX10_scourge.2.1 90 = .ok (.iload_n 2, 1) := by decide +kernel
theorem dX10_scourge_91 : decode mX10_scourge.2.1 91 = .ok (.goto 4, 3) := by decide +kernel
theorem dX10_scourge_94 : decode mX10_scourge.2.1 94 = .ok (.iload_n 3, 1) := by decide +kernel
theorem dX10_scourge_95 : decode mX10_scourge.2.1 95 = .ok (.ireturn, 1) := by decide +kernel
theorem bX10_scourge_0 {E : px_E} {d : Nat} {w : pw_W} {Q : Option Value → pw_W → Prop} {t : ct_T} (hw : w.1 = cs t) {x1 : Int32}  
    (k1 : (pX10_isIn x1 0 1) → px_W E mX10_scourge (d + 2) 0 0 20 [.ref 61, .int x1, .int (-1), .int 1000000, .int 0, .null] [] w Q)
    (k2 : ¬ (pX10_isIn x1 0 1) → Q (some (.int (-1))) w) :
    px_W E mX10_scourge (d + 2) 0 0 0 [.ref 61, .int x1, .null, .null, .null, .null] [] w Q := by
  refine px_iload_n dX10_scourge_0 rfl rfl ?_
  refine px_iconst dX10_scourge_1 ic_0 ?_
  refine px_iconst dX10_scourge_2 ic_1 ?_
  refine px_callS (As := [.int x1, .int 0, .int 1]) (st := []) (rc := 0) (rs := 0) (mc := 0) (ms := 0) dX10_scourge_3 lk_10_440 rfl rfl (Nat.le_of_ble_eq_true rfl) (sX10_isIn ?_)
  show px_W E mX10_scourge (d + 2) 0 0 6 [.ref 61, .int x1, .null, .null, .null, .null] [.int (jb (pX10_isIn x1 0 1))] w Q
  refine px_jb_ne (tgt := 11) dX10_scourge_6 (by decide) (fun h1 => ?_) (fun h1 => ?_)
  ·
    refine px_iconst dX10_scourge_11 ic_m1 ?_
    refine px_istore_n (ls' := [.ref 61, .int x1, .int (-1), .null, .null, .null]) dX10_scourge_12 rfl ⟨by decide, rfl⟩ rfl ?_
    refine px_ldcw dX10_scourge_13 (px_in8 117 rfl rfl) ?_
    refine px_istore_n (ls' := [.ref 61, .int x1, .int (-1), .int 1000000, .null, .null]) dX10_scourge_16 rfl ⟨by decide, rfl⟩ rfl ?_
    refine px_iconst dX10_scourge_17 ic_0 ?_
    refine px_istore (ls' := [.ref 61, .int x1, .int (-1), .int 1000000, .int 0, .null]) dX10_scourge_18 ⟨by decide, rfl⟩ rfl ?_
    exact (k1 h1)
  ·
    refine px_iconst dX10_scourge_9 ic_m1 ?_
    exact px_ireturn dX10_scourge_10 rfl rfl (k2 h1)
theorem eX10_scourge {E : px_E} {d : Nat} {w : pw_W} {Q : Option Value → pw_W → Prop} {t : ct_T} (hw : w.1 = cs t) {x1 : Int32}  
    (k1 : (pX10_isIn x1 0 1) → px_W E mX10_scourge (d + 2) 0 0 20 [.ref 61, .int x1, .int (-1), .int 1000000, .int 0, .null] [] w Q)
    (k2 : ¬ (pX10_isIn x1 0 1) → Q (some (.int (-1))) w) :
    px_Call E (d + 2) 0 0 mX10_scourge [.ref 61, .int x1] w Q :=
  px_enter (k := 4) (by decide) (Nat.le_of_ble_eq_true rfl) rfl (px_forget (bX10_scourge_0 hw k1 k2) ⟨Or.inr rfl, Or.inr rfl, Or.inl rfl, Or.inl rfl, Or.inl rfl, Or.inl rfl, trivial⟩)
theorem bX10_scourge_20 {E : px_E} {d : Nat} {w : pw_W} {Q : Option Value → pw_W → Prop} {t : ct_T} (hw : w.1 = cs t) {x1 x2 x3 x4 : Int32}  
    (k1 : (pw_I w 61 51) ≤ x4 → 0 ≤ x2 → ¬ x1 = 0 → px_W E mX10_scourge (d + 2) 0 0 95 [.null, .null, .null, .null, .null, .null] [.int x3] w Q)
    (k2 : (pw_I w 61 51) ≤ x4 → 0 ≤ x2 → x1 = 0 → px_W E mX10_scourge (d + 2) 0 0 95 [.null, .null, .null, .null, .null, .null] [.int x2] w Q)
    (k3 : (pw_I w 61 51) ≤ x4 → ¬ 0 ≤ x2 → px_W E mX10_scourge (d + 2) 0 0 95 [.null, .null, .null, .null, .null, .null] [.int (-1)] w Q)
    (k4 : ¬ (pw_I w 61 51) ≤ x4 → px_Call E (d + 1) 0 0 mX10_fill [.ref 61] w (fun v w' => px_W E mX10_scourge (d + 2) 0 0 33 [.ref 61, .int x1, .int x2, .int x3, .int x4, .null] (v.toList ++ []) w' Q)) :
    px_W E mX10_scourge (d + 2) 0 0 20 [.ref 61, .int x1, .int x2, .int x3, .int x4, .null] [] w Q := by
  refine px_iload dX10_scourge_20 rfl ?_
  refine px_aload_n dX10_scourge_22 rfl rfl ?_
  refine px_getI dX10_scourge_23 fr_10_404 rfl (px_sh1 hw sh_61) ?_
  refine px_icmp_ge (tgt := 78) dX10_scourge_26 (by decide) (fun h1 => ?_) (fun h1 => ?_)
  ·
    refine px_iload_n dX10_scourge_78 rfl rfl ?_
    refine px_if_ge (tgt := 86) dX10_scourge_79 (by decide) (fun h2 => ?_) (fun h2 => ?_)
    ·
      refine px_iload_n dX10_scourge_86 rfl rfl ?_
      refine px_if_ne (tgt := 94) dX10_scourge_87 (by decide) (fun h3 => ?_) (fun h3 => ?_)
      ·
        refine px_iload_n dX10_scourge_94 rfl rfl ?_
        exact px_forget (k1 h1 h2 h3) ⟨Or.inl rfl, Or.inl rfl, Or.inl rfl, Or.inl rfl, Or.inl rfl, Or.inl rfl, trivial⟩
      ·
        refine px_iload_n dX10_scourge_90 rfl rfl ?_
        refine px_goto (tgt := 95) dX10_scourge_91 (by decide) ?_
        exact px_forget (k2 h1 h2 h3) ⟨Or.inl rfl, Or.inl rfl, Or.inl rfl, Or.inl rfl, Or.inl rfl, Or.inl rfl, trivial⟩
    ·
      refine px_iconst dX10_scourge_82 ic_m1 ?_
      refine px_goto (tgt := 95) dX10_scourge_83 (by decide) ?_
      exact px_forget (k3 h1 h2) ⟨Or.inl rfl, Or.inl rfl, Or.inl rfl, Or.inl rfl, Or.inl rfl, Or.inl rfl, trivial⟩
  ·
    refine px_aload_n dX10_scourge_29 rfl rfl ?_
    exact px_callV (As := []) (st := []) (rc := 0) (rs := 0) (mc := 0) (ms := 0) dX10_scourge_30 lk_10_480 (px_sh1 hw sh_61) rfl rfl (Nat.le_of_ble_eq_true rfl) (k4 h1)
theorem bX10_scourge_33 {E : px_E} {d : Nat} {w : pw_W} {Q : Option Value → pw_W → Prop} {t : ct_T} (hw : w.1 = cs t) {x1 x2 x3 x4 : Int32}  
    (k1 : px_Call E (d + 1) 0 0 mX10_meetingsOf [.ref 61, .int x4] w (fun v w' => px_W E mX10_scourge (d + 2) 0 0 47 [.ref 61, .int x1, .int x2, .int x3, .int x4, .null] (v.toList ++ [.int (pw_I w 90 12), .int 12, .ref 90]) w' Q)) :
    px_W E mX10_scourge (d + 2) 0 0 33 [.ref 61, .int x1, .int x2, .int x3, .int x4, .null] [] w Q := by
  refine px_aload_n dX10_scourge_33 rfl rfl ?_
  refine px_getR (v := 90) dX10_scourge_34 fr_10_102 rfl (px_sh1 hw sh_61) (px_rf hw rf_61_61) (by decide) ?_
  refine px_bipush dX10_scourge_37 bp_12 ?_
  refine px_dup2 dX10_scourge_39 rfl rfl ?_
  refine px_iald dX10_scourge_40 (px_sh2 hw sh_90) (by decide) 12 rfl (by decide) ?_
  refine px_aload_n dX10_scourge_41 rfl rfl ?_
  refine px_iload dX10_scourge_42 rfl ?_
  exact px_callV (As := [.int x4]) (st := [.int (pw_I w 90 12), .int 12, .ref 90]) (rc := 0) (rs := 0) (mc := 0) (ms := 0) dX10_scourge_44 lk_10_542 (px_sh1 hw sh_61) rfl rfl (Nat.le_of_ble_eq_true rfl) k1
theorem bX10_scourge_47 {E : px_E} {d : Nat} {w : pw_W} {Q : Option Value → pw_W → Prop} {t : ct_T} (hw : w.1 = cs t) {x1 x2 x3 x4 y1 y2 y3 : Int32}  (j1 : Nat) (hj1 : y1 = nI j1) (hl1 : j1 < 15)
    (k1 : px_Call E (d + 1) 0 0 mX10_hurtBehind [.ref 61, .int 7] (pw_sI w 90 j1 (y2 ||| y3)) (fun v w' => px_W E mX10_scourge (d + 2) 0 0 55 [.ref 61, .int x1, .int x2, .int x3, .int x4, .null] (v.toList ++ []) w' Q)) :
    px_W E mX10_scourge (d + 2) 0 0 47 [.ref 61, .int x1, .int x2, .int x3, .int x4, .null] [.int y3, .int y2, .int y1, .ref 90] w Q := by
  refine px_ior dX10_scourge_47 ?_
  refine px_iast dX10_scourge_48 (px_sh2 hw sh_90) (by decide) j1 hj1 hl1 (by omega) ?_
  refine px_aload_n dX10_scourge_49 rfl rfl ?_
  refine px_bipush dX10_scourge_50 bp_7 ?_
  exact px_callV (As := [.int 7]) (st := []) (rc := 0) (rs := 0) (mc := 0) (ms := 0) dX10_scourge_52 lk_10_507 (px_sh1 (hI hw) sh_61) rfl rfl (Nat.le_of_ble_eq_true rfl) k1
theorem bX10_scourge_55 {E : px_E} {d : Nat} {w : pw_W} {Q : Option Value → pw_W → Prop} {t : ct_T} (hw : w.1 = cs t) {x1 x2 x3 x4 y0 : Int32}  
    (k1 : y0 < x3 → px_W E mX10_scourge (d + 2) 0 0 72 [.ref 61, .int x1, .int x4, .int y0, .int x4, .null] [] w Q)
    (k2 : ¬ y0 < x3 → px_W E mX10_scourge (d + 2) 0 0 72 [.ref 61, .int x1, .int x2, .int x3, .int x4, .null] [] w Q) :
    px_W E mX10_scourge (d + 2) 0 0 55 [.ref 61, .int x1, .int x2, .int x3, .int x4, .null] [.int y0] w Q := by
  refine px_istore (ls' := [.ref 61, .int x1, .int x2, .int x3, .int x4, .int y0]) dX10_scourge_55 ⟨by decide, rfl⟩ rfl ?_
  refine px_iload dX10_scourge_57 rfl ?_
  refine px_iload_n dX10_scourge_59 rfl rfl ?_
  refine px_icmp_lt (tgt := 66) dX10_scourge_60 (by decide) (fun h1 => ?_) (fun h1 => ?_)
  ·
    refine px_iload dX10_scourge_66 rfl ?_
    refine px_istore_n (ls' := [.ref 61, .int x1, .int x4, .int x3, .int x4, .int y0]) dX10_scourge_68 rfl ⟨by decide, rfl⟩ rfl ?_
    refine px_iload dX10_scourge_69 rfl ?_
    refine px_istore_n (ls' := [.ref 61, .int x1, .int x4, .int y0, .int x4, .int y0]) dX10_scourge_71 rfl ⟨by decide, rfl⟩ rfl ?_
    exact px_forget (k1 h1) ⟨Or.inr rfl, Or.inr rfl, Or.inr rfl, Or.inr rfl, Or.inr rfl, Or.inl rfl, trivial⟩
  ·
    refine px_goto (tgt := 72) dX10_scourge_63 (by decide) ?_
    exact px_forget (k2 h1) ⟨Or.inr rfl, Or.inr rfl, Or.inr rfl, Or.inr rfl, Or.inr rfl, Or.inl rfl, trivial⟩
theorem bX10_scourge_72 {E : px_E} {d : Nat} {w : pw_W} {Q : Option Value → pw_W → Prop} {t : ct_T} (hw : w.1 = cs t) {x1 x2 x3 x4 : Int32}  
    (k1 : px_W E mX10_scourge (d + 2) 0 0 20 [.ref 61, .int x1, .int x2, .int x3, .int (x4 + 1), .null] [] w Q) :
    px_W E mX10_scourge (d + 2) 0 0 72 [.ref 61, .int x1, .int x2, .int x3, .int x4, .null] [] w Q := by
  refine px_iinc (ls' := [.ref 61, .int x1, .int x2, .int x3, .int (x4 + 1), .null]) dX10_scourge_72 ⟨by decide, rfl⟩ rfl rfl rfl ?_
  refine px_goto (tgt := 20) dX10_scourge_75 (by decide) ?_
  exact k1
theorem bX10_scourge_95 {E : px_E} {d : Nat} {w : pw_W} {Q : Option Value → pw_W → Prop} {t : ct_T} (hw : w.1 = cs t) {y0 : Int32}  
    (k1 : Q (some (.int y0)) w) :
    px_W E mX10_scourge (d + 2) 0 0 95 [.null, .null, .null, .null, .null, .null] [.int y0] w Q := by
  exact px_ireturn dX10_scourge_95 rfl rfl k1
theorem dX10_relief_0 : decode mX10_relief.2.1 0 = .ok (.aload_n 0, 1) := by decide +kernel
theorem dX10_relief_1 : decode mX10_relief.2.1 1 = .ok (.iload_n 1, 1) := by decide +kernel
theorem dX10_relief_2 : decode mX10_relief.2.1 2 = .ok (.invokevirtual 486, 3) := by decide +kernel
theorem dX10_relief_5 : decode mX10_relief.2.1 5 = .ok (.ifCond .eq 12, 3) := by decide +kernel
theorem dX10_relief_8 : decode mX10_relief.2.1 8 = .ok (.iload_n 2, 1) := by decide +kernel
theorem dX10_relief_9 : decode mX10_relief.2.1 9 = .ok (.iconst 0, 1) := by decide +kernel
theorem dX10_relief_10 : decode mX10_relief.2.1 10 = .ok (.iconst 1, 1) := by decide +kernel
theorem dX10_relief_11 : decode mX10_relief.2.1 11 = .ok (.invokestatic 440, 3) := by decide +kernel
theorem dX10_relief_14 : decode mX10_relief.2.1 14 = .ok (.ifCond .ne 5, 3) := by decide +kernel
theorem dX10_relief_17 : decode mX10_relief.2.1 17 = .ok (.iconst (-1), 1) := by decide +kernel
theorem dX10_relief_18 : decode mX10_relief.2.1 18 = .ok (.ireturn, 1) := by decide +kernel
theorem dX10_relief_19 : decode mX10_relief.2.1 19 = .ok (.iconst (-1), 1) := by decide +kernel
theorem dX10_relief_20 : decode mX10_relief.2.1 20 = .ok (.istore_n 3, 1) := by decide +kernel
theorem dX10_relief_21 : decode mX10_relief.2.1 21 = .ok (.ldc_w 526, 3) := by decide +kernel
theorem dX10_relief_24 : decode mX10_relief.2.1 24 = .ok (.istore 4, 2) := by decide +kernel
theorem dX10_relief_26 : decode mX10_relief.2.1 26 = .ok (.iconst 0, 1) := by decide +kernel
theorem dX10_relief_27 : decode mX10_relief.2.1 27 = .ok (.istore 5, 2) := by decide +kernel
theorem dX10_relief_29 : decode mX10_relief.2.1 29 = .ok (.iload 5, 2) := by decide +kernel
theorem dX10_relief_31 : decode mX10_relief.2.1 31 = .ok (.aload_n 0, 1) := by decide +kernel
theorem dX10_relief_32 : decode mX10_relief.2.1 32 = .ok (.getfield 404, 3) := by decide +kernel
theorem dX10_relief_35 : decode mX10_relief.2.1 35 = .ok (.if_icmp .ge 45, 3) := by decide +kernel
theorem dX10_relief_38 : decode mX10_relief.2.1 38 = .ok (.aload_n 0, 1) := by decide +kernel
theorem dX10_relief_39 : decode mX10_relief.2.1 39 = .ok (.invokevirtual 480, 3) := by decide +kernel
theorem dX10_relief_42 : decode mX10_relief.2.1 42 = .ok (.aload_n 0, 1) := by decide +kernel
theorem dX10_relief_43 : decode mX10_relief.2.1 43 = .ok (.iload_n 1, 1) := by decide +kernel
theorem dX10_relief_44 : decode mX10_relief.2.1 44 = .ok (.iload 5, 2) := by decide +kernel
theorem dX10_relief_46 : decode mX10_relief.2.1 46 = .ok (.invokevirtual 471, 3) := by decide +kernel
theorem dX10_relief_49 : decode mX10_relief.2.1 49 = .ok (.aload_n 0, 1) := by decide +kernel
theorem dX10_relief_50 : decode mX10_relief.2.1 50 = .ok (.bipush 7, 2) := by decide +kernel
theorem dX10_relief_52 : decode mX10_relief.2.1 52 = .ok (.invokevirtual 507, 3) := by decide +kernel
theorem dX10_relief_55 : decode mX10_relief.2.1 55 = .ok (.istore 6, 2) := by decide +kernel
theorem dX10_relief_57 : decode mX10_relief.2.1 57 = .ok (.iload 6, 2) := by decide +kernel
theorem dX10_relief_59 : decode mX10_relief.2.1 59 = .ok (.iload 4, 2) := by decide +kernel
theorem dX10_relief_61 : decode mX10_relief.2.1 61 = .ok (.if_icmp .lt 6, 3) := by decide +kernel
theorem dX10_relief_64 : decode mX10_relief.2.1 64 = .ok (.goto 10, 3) := by decide +kernel
theorem dX10_relief_67 : decode mX10_relief.2.1 67 = .ok (.iload 5, 2) := by decide +kernel
theorem dX10_relief_69 : decode mX10_relief.2.1 69 = .ok (.istore_n 3, 1) := by decide +kernel
theorem dX10_relief_70 : decode mX10_relief.2.1 70 = .ok (.iload 6, 2) := by decide +kernel
theorem dX10_relief_72 : decode mX10_relief.2.1 72 = .ok (.istore 4, 2) := by decide +kernel
theorem dX10_relief_74 : decode mX10_relief.2.1 74 = .ok (.iinc 5 1, 3) := by decide +kernel
theorem dX10_relief_77 : decode mX10_relief.2.1 77 = .ok (.goto (-48), 3) := by decide +kernel
theorem dX10_relief_80 : decode mX10_relief.2.1 80 = .ok (.iload_n 3, 1) := by decide +kernel
theorem dX10_relief_81 : decode mX10_relief.2.1 81 = .ok (.ifCond .ge 7, 3) := by decide +kernel
theorem dX10_relief_84 : decode mX10_relief.2.1 84 = .ok (.iconst (-1), 1) := by decide +kernel
theorem dX10_relief_85 : decode mX10_relief.2.1 85 = .ok (.goto 13, 3) := by decide +kernel
theorem dX10_relief_88 : decode mX10_relief.2.1 88 = .ok (.iload_n 2, 1) := by decide +kernel
theorem dX10_relief_89 : decode mX10_relief.2.1 89 = .ok (.ifCond .ne 7, 3) := by decide +kernel
theorem dX10_relief_92 : decode mX10_relief.2.1 92 = .ok (.iload_n 3, 1) := by decide +kernel
theorem dX10_relief_93 : decode mX10_relief.2.1 93 = .ok (.goto 5, 3) := by decide +kernel
theorem dX10_relief_96 : decode mX10_relief.2.1 96 = .ok (.iload 4, 2) := by decide +kernel
theorem dX10_relief_98 : decode mX10_relief.2.1 98 = .ok (.ireturn, 1) := by decide +kernel
theorem bX10_relief_0 {E : px_E} {d : Nat} {w : pw_W} {Q : Option Value → pw_W → Prop} {t : ct_T} (hw : w.1 = cs t) {x1 x2 : Int32}  
    (k1 : ¬ (pX10_isBrother w x1) → px_W E mX10_relief (d + 3) 0 0 17 [.null, .null, .null, .null, .null, .null, .null] [] w Q)
    (k2 : (pX10_isBrother w x1) → (pX10_isIn x2 0 1) → px_W E mX10_relief (d + 3) 0 0 29 [.ref 61, .int x1, .int x2, .int (-1), .int 1000000, .int 0, .null] [] w Q)
    (k3 : (pX10_isBrother w x1) → ¬ (pX10_isIn x2 0 1) → px_W E mX10_relief (d + 3) 0 0 17 [.null, .null, .null, .null, .null, .null, .null] [] w Q) :
    px_W E mX10_relief (d + 3) 0 0 0 [.ref 61, .int x1, .int x2, .null, .null, .null, .null] [] w Q := by
  refine px_aload_n dX10_relief_0 rfl rfl ?_
  refine px_iload_n dX10_relief_1 rfl rfl ?_
  refine px_callV (As := [.int x1]) (st := []) (rc := 0) (rs := 0) (mc := 0) (ms := 0) dX10_relief_2 lk_10_486 (px_sh1 hw sh_61) rfl rfl (Nat.le_of_ble_eq_true rfl) (sX10_isBrother (w := w) hw ?_)
  show px_W E mX10_relief (d + 3) 0 0 5 [.ref 61, .int x1, .int x2, .null, .null, .null, .null] [.int (jb (pX10_isBrother w x1))] w Q
  refine px_jb_eq (tgt := 17) dX10_relief_5 (by decide) (fun h1 => ?_) (fun h1 => ?_)
  ·
    exact px_forget (k1 h1) ⟨Or.inl rfl, Or.inl rfl, Or.inl rfl, Or.inl rfl, Or.inl rfl, Or.inl rfl, Or.inl rfl, trivial⟩
  ·
    refine px_iload_n dX10_relief_8 rfl rfl ?_
    refine px_iconst dX10_relief_9 ic_0 ?_
    refine px_iconst dX10_relief_10 ic_1 ?_
    refine px_callS (As := [.int x2, .int 0, .int 1]) (st := []) (rc := 0) (rs := 0) (mc := 0) (ms := 0) dX10_relief_11 lk_10_440 rfl rfl (Nat.le_of_ble_eq_true rfl) (sX10_isIn ?_)
    show px_W E mX10_relief (d + 3) 0 0 14 [.ref 61, .int x1, .int x2, .null, .null, .null, .null] [.int (jb (pX10_isIn x2 0 1))] w Q
    refine px_jb_ne (tgt := 19) dX10_relief_14 (by decide) (fun h2 => ?_) (fun h2 => ?_)
    ·
      refine px_iconst dX10_relief_19 ic_m1 ?_
      refine px_istore_n (ls' := [.ref 61, .int x1, .int x2, .int (-1), .null, .null, .null]) dX10_relief_20 rfl ⟨by decide, rfl⟩ rfl ?_
      refine px_ldcw dX10_relief_21 (px_in8 117 rfl rfl) ?_
      refine px_istore (ls' := [.ref 61, .int x1, .int x2, .int (-1), .int 1000000, .null, .null]) dX10_relief_24 ⟨by decide, rfl⟩ rfl ?_
      refine px_iconst dX10_relief_26 ic_0 ?_
      refine px_istore (ls' := [.ref 61, .int x1, .int x2, .int (-1), .int 1000000, .int 0, .null]) dX10_relief_27 ⟨by decide, rfl⟩ rfl ?_
      exact (k2 h1 h2)
    ·
      exact px_forget (k3 h1 h2) ⟨Or.inl rfl, Or.inl rfl, Or.inl rfl, Or.inl rfl, Or.inl rfl, Or.inl rfl, Or.inl rfl, trivial⟩
theorem eX10_relief {E : px_E} {d : Nat} {w : pw_W} {Q : Option Value → pw_W → Prop} {t : ct_T} (hw : w.1 = cs t) {x1 x2 : Int32}  
    (k1 : ¬ (pX10_isBrother w x1) → px_W E mX10_relief (d + 3) 0 0 17 [.null, .null, .null, .null, .null, .null, .null] [] w Q)
    (k2 : (pX10_isBrother w x1) → (pX10_isIn x2 0 1) → px_W E mX10_relief (d + 3) 0 0 29 [.ref 61, .int x1, .int x2, .int (-1), .int 1000000, .int 0, .null] [] w Q)
    (k3 : (pX10_isBrother w x1) → ¬ (pX10_isIn x2 0 1) → px_W E mX10_relief (d + 3) 0 0 17 [.null, .null, .null, .null, .null, .null, .null] [] w Q) :
    px_Call E (d + 3) 0 0 mX10_relief [.ref 61, .int x1, .int x2] w Q :=
  px_enter (k := 4) (by decide) (Nat.le_of_ble_eq_true rfl) rfl (px_forget (bX10_relief_0 hw k1 k2 k3) ⟨Or.inr rfl, Or.inr rfl, Or.inr rfl, Or.inl rfl, Or.inl rfl, Or.inl rfl, Or.inl rfl, trivial⟩)
theorem bX10_relief_17 {E : px_E} {d : Nat} {w : pw_W} {Q : Option Value → pw_W → Prop} {t : ct_T} (hw : w.1 = cs t)  
    (k1 : Q (some (.int (-1))) w) :
    px_W E mX10_relief (d + 3) 0 0 17 [.null, .null, .null, .null, .null, .null, .null] [] w Q := by
  refine px_iconst dX10_relief_17 ic_m1 ?_
  exact px_ireturn dX10_relief_18 rfl rfl k1
theorem bX10_relief_29 {E : px_E} {d : Nat} {w : pw_W} {Q : Option Value → pw_W → Prop} {t : ct_T} (hw : w.1 = cs t) {x1 x2 x3 x4 x5 : Int32}  
    (k1 : (pw_I w 61 51) ≤ x5 → 0 ≤ x3 → ¬ x2 = 0 → px_W E mX10_relief (d + 3) 0 0 98 [.null, .null, .null, .null, .null, .null, .null] [.int x4] w Q)
    (k2 : (pw_I w 61 51) ≤ x5 → 0 ≤ x3 → x2 = 0 → px_W E mX10_relief (d + 3) 0 0 98 [.null, .null, .null, .null, .null, .null, .null] [.int x3] w Q)
    (k3 : (pw_I w 61 51) ≤ x5 → ¬ 0 ≤ x3 → px_W E mX10_relief (d + 3) 0 0 98 [.null, .null, .null, .null, .null, .null, .null] [.int (-1)] w Q)
    (k4 : ¬ (pw_I w 61 51) ≤ x5 → px_Call E (d + 2) 0 0 mX10_fill [.ref 61] w (fun v w' => px_W E mX10_relief (d + 3) 0 0 42 [.ref 61, .int x1, .int x2, .int x3, .int x4, .int x5, .null] (v.toList ++ []) w' Q)) :
    px_W E mX10_relief (d + 3) 0 0 29 [.ref 61, .int x1, .int x2, .int x3, .int x4, .int x5, .null] [] w Q := by
  refine px_iload dX10_relief_29 rfl ?_
  refine px_aload_n dX10_relief_31 rfl rfl ?_
  refine px_getI dX10_relief_32 fr_10_404 rfl (px_sh1 hw sh_61) ?_
  refine px_icmp_ge (tgt := 80) dX10_relief_35 (by decide) (fun h1 => ?_) (fun h1 => ?_)
  ·
    refine px_iload_n dX10_relief_80 rfl rfl ?_
    refine px_if_ge (tgt := 88) dX10_relief_81 (by decide) (fun h2 => ?_) (fun h2 => ?_)
    ·
      refine px_iload_n dX10_relief_88 rfl rfl ?_
      refine px_if_ne (tgt := 96) dX10_relief_89 (by decide) (fun h3 => ?_) (fun h3 => ?_)
      ·
        refine px_iload dX10_relief_96 rfl ?_
        exact px_forget (k1 h1 h2 h3) ⟨Or.inl rfl, Or.inl rfl, Or.inl rfl, Or.inl rfl, Or.inl rfl, Or.inl rfl, Or.inl rfl, trivial⟩
      ·
        refine px_iload_n dX10_relief_92 rfl rfl ?_
        refine px_goto (tgt := 98) dX10_relief_93 (by decide) ?_
        exact px_forget (k2 h1 h2 h3) ⟨Or.inl rfl, Or.inl rfl, Or.inl rfl, Or.inl rfl, Or.inl rfl, Or.inl rfl, Or.inl rfl, trivial⟩
    ·
      refine px_iconst dX10_relief_84 ic_m1 ?_
      refine px_goto (tgt := 98) dX10_relief_85 (by decide) ?_
      exact px_forget (k3 h1 h2) ⟨Or.inl rfl, Or.inl rfl, Or.inl rfl, Or.inl rfl, Or.inl rfl, Or.inl rfl, Or.inl rfl, trivial⟩
  ·
    refine px_aload_n dX10_relief_38 rfl rfl ?_
    exact px_callV (As := []) (st := []) (rc := 0) (rs := 0) (mc := 0) (ms := 0) dX10_relief_39 lk_10_480 (px_sh1 hw sh_61) rfl rfl (Nat.le_of_ble_eq_true rfl) (k4 h1)
theorem bX10_relief_42 {E : px_E} {d : Nat} {w : pw_W} {Q : Option Value → pw_W → Prop} {t : ct_T} (hw : w.1 = cs t) {x1 x2 x3 x4 x5 : Int32}  
    (k1 : px_Call E (d + 2) 0 0 mX10_soothes [.ref 61, .int x1, .int x5] w (fun v w' => px_W E mX10_relief (d + 3) 0 0 49 [.ref 61, .int x1, .int x2, .int x3, .int x4, .int x5, .null] (v.toList ++ []) w' Q)) :
    px_W E mX10_relief (d + 3) 0 0 42 [.ref 61, .int x1, .int x2, .int x3, .int x4, .int x5, .null] [] w Q := by
  refine px_aload_n dX10_relief_42 rfl rfl ?_
  refine px_iload_n dX10_relief_43 rfl rfl ?_
  refine px_iload dX10_relief_44 rfl ?_
  exact px_callV (As := [.int x1, .int x5]) (st := []) (rc := 0) (rs := 0) (mc := 0) (ms := 0) dX10_relief_46 lk_10_471 (px_sh1 hw sh_61) rfl rfl (Nat.le_of_ble_eq_true rfl) k1
theorem bX10_relief_49 {E : px_E} {d : Nat} {w : pw_W} {Q : Option Value → pw_W → Prop} {t : ct_T} (hw : w.1 = cs t) {x1 x2 x3 x4 x5 : Int32}  
    (k1 : px_Call E (d + 2) 0 0 mX10_hurtBehind [.ref 61, .int 7] w (fun v w' => px_W E mX10_relief (d + 3) 0 0 55 [.ref 61, .int x1, .int x2, .int x3, .int x4, .int x5, .null] (v.toList ++ []) w' Q)) :
    px_W E mX10_relief (d + 3) 0 0 49 [.ref 61, .int x1, .int x2, .int x3, .int x4, .int x5, .null] [] w Q := by
  refine px_aload_n dX10_relief_49 rfl rfl ?_
  refine px_bipush dX10_relief_50 bp_7 ?_
  exact px_callV (As := [.int 7]) (st := []) (rc := 0) (rs := 0) (mc := 0) (ms := 0) dX10_relief_52 lk_10_507 (px_sh1 hw sh_61) rfl rfl (Nat.le_of_ble_eq_true rfl) k1
theorem bX10_relief_55 {E : px_E} {d : Nat} {w : pw_W} {Q : Option Value → pw_W → Prop} {t : ct_T} (hw : w.1 = cs t) {x1 x2 x3 x4 x5 y0 : Int32}  
    (k1 : y0 < x4 → px_W E mX10_relief (d + 3) 0 0 74 [.ref 61, .int x1, .int x2, .int x5, .int y0, .int x5, .null] [] w Q)
    (k2 : ¬ y0 < x4 → px_W E mX10_relief (d + 3) 0 0 74 [.ref 61, .int x1, .int x2, .int x3, .int x4, .int x5, .null] [] w Q) :
    px_W E mX10_relief (d + 3) 0 0 55 [.ref 61, .int x1, .int x2, .int x3, .int x4, .int x5, .null] [.int y0] w Q := by
  refine px_istore (ls' := [.ref 61, .int x1, .int x2, .int x3, .int x4, .int x5, .int y0]) dX10_relief_55 ⟨by decide, rfl⟩ rfl ?_
  refine px_iload dX10_relief_57 rfl ?_
  refine px_iload dX10_relief_59 rfl ?_
  refine px_icmp_lt (tgt := 67) dX10_relief_61 (by decide) (fun h1 => ?_) (fun h1 => ?_)
  ·
    refine px_iload dX10_relief_67 rfl ?_
    refine px_istore_n (ls' := [.ref 61, .int x1, .int x2, .int x5, .int x4, .int x5, .int y0]) dX10_relief_69 rfl ⟨by decide, rfl⟩ rfl ?_
    refine px_iload dX10_relief_70 rfl ?_
    refine px_istore (ls' := [.ref 61, .int x1, .int x2, .int x5, .int y0, .int x5, .int y0]) dX10_relief_72 ⟨by decide, rfl⟩ rfl ?_
    exact px_forget (k1 h1) ⟨Or.inr rfl, Or.inr rfl, Or.inr rfl, Or.inr rfl, Or.inr rfl, Or.inr rfl, Or.inl rfl, trivial⟩
  ·
    refine px_goto (tgt := 74) dX10_relief_64 (by decide) ?_
    exact px_forget (k2 h1) ⟨Or.inr rfl, Or.inr rfl, Or.inr rfl, Or.inr rfl, Or.inr rfl, Or.inr rfl, Or.inl rfl, trivial⟩
theorem bX10_relief_74 {E : px_E} {d : Nat} {w : pw_W} {Q : Option Value → pw_W → Prop} {t : ct_T} (hw : w.1 = cs t) {x1 x2 x3 x4 x5 : Int32}  
    (k1 : px_W E mX10_relief (d + 3) 0 0 29 [.ref 61, .int x1, .int x2, .int x3, .int x4, .int (x5 + 1), .null] [] w Q) :
    px_W E mX10_relief (d + 3) 0 0 74 [.ref 61, .int x1, .int x2, .int x3, .int x4, .int x5, .null] [] w Q := by
  refine px_iinc (ls' := [.ref 61, .int x1, .int x2, .int x3, .int x4, .int (x5 + 1), .null]) dX10_relief_74 ⟨by decide, rfl⟩ rfl rfl rfl ?_
  refine px_goto (tgt := 29) dX10_relief_77 (by decide) ?_
  exact k1
theorem bX10_relief_98 {E : px_E} {d : Nat} {w : pw_W} {Q : Option Value → pw_W → Prop} {t : ct_T} (hw : w.1 = cs t) {y0 : Int32}  
    (k1 : Q (some (.int y0)) w) :
    px_W E mX10_relief (d + 3) 0 0 98 [.null, .null, .null, .null, .null, .null, .null] [.int y0] w Q := by
  exact px_ireturn dX10_relief_98 rfl rfl k1
theorem dX10_mostAt_0 : decode mX10_mostAt.2.1 0 = .ok (.iconst (-1), 1) := by decide +kernel
theorem dX10_mostAt_1 : decode mX10_mostAt.2.1 1 = .ok (.istore_n 2, 1) := by decide +kernel
theorem dX10_mostAt_2 : decode mX10_mostAt.2.1 2 = .ok (.iconst 0, 1) := by decide +kernel
theorem dX10_mostAt_3 : decode mX10_mostAt.2.1 3 = .ok (.istore_n 3, 1) := by decide +kernel
theorem dX10_mostAt_4 : decode mX10_mostAt.2.1 4 = .ok (.iload_n 3, 1) := by decide +kernel
theorem dX10_mostAt_5 : decode mX10_mostAt.2.1 5 = .ok (.aload_n 0, 1) := by decide +kernel
theorem dX10_mostAt_6 : decode mX10_mostAt.2.1 6 = .ok (.getfield 404, 3) := by decide +kernel
theorem dX10_mostAt_9 : decode mX10_mostAt.2.1 9 = .ok (.if_icmp .ge 34, 3) := by decide +kernel
theorem dX10_mostAt_12 : decode mX10_mostAt.2.1 12 = .ok (.iload_n 2, 1) := by decide +kernel
theorem dX10_mostAt_13 : decode mX10_mostAt.2.1 13 = .ok (.ifCond .lt 22, 3) := by decide +kernel
theorem dX10_mostAt_16 : decode mX10_mostAt.2.1 16 = .ok (.aload_n 0, 1) := by decide +kernel
theorem dX10_mostAt_17 : decode mX10_mostAt.2.1 17 = .ok (.getfield 99, 3) := by decide +kernel
theorem dX10_mostAt_20 : decode mX10_mostAt.2.1 20 = .ok (.iload_n 1, 1) := by decide +kernel
theorem dX10_mostAt_21 : decode mX10_mostAt.2.1 21 = .ok (.iload_n 3, 1) := by decide +kernel
theorem dX10_mostAt_22 : decode mX10_mostAt.2.1 22 = .ok (.iadd, 1) := by decide +kernel
theorem dX10_mostAt_23 : decode mX10_mostAt.2.1 23 = .ok (.iaload, 1) := by decide +kernel
theorem dX10_mostAt_24 : decode mX10_mostAt.2.1 24 = .ok (.aload_n 0, 1) := by decide +kernel
theorem dX10_mostAt_25 : decode mX10_mostAt.2.1 25 = .ok (.getfield 99, 3) := by decide +kernel
theorem dX10_mostAt_28 : decode mX10_mostAt.2.1 28 = .ok (.iload_n 1, 1) := by decide +kernel
theorem dX10_mostAt_29 : decode mX10_mostAt.2.1 29 = .ok (.iload_n 2, 1) := by decide +kernel
theorem dX10_mostAt_30 : decode mX10_mostAt.2.1 30 = .ok (.iadd, 1) := by decide +kernel
theorem dX10_mostAt_31 : decode mX10_mostAt.2.1 31 = .ok (.iaload, 1) := by decide +kernel
theorem dX10_mostAt_32 : decode mX10_mostAt.2.1 32 = .ok (.if_icmp .le 5, 3) := by decide +kernel
theorem dX10_mostAt_35 : decode mX10_mostAt.2.1 35 = .ok (.iload_n 3, 1) := by decide +kernel
theorem dX10_mostAt_36 : decode mX10_mostAt.2.1 36 = .ok (.istore_n 2, 1) := by decide +kernel
theorem dX10_mostAt_37 : decode mX10_mostAt.2.1 37 = .ok (.iinc 3 1, 3) := by decide +kernel
theorem dX10_mostAt_40 : decode mX10_mostAt.2.1 40 = .ok (.goto (-36), 3) := by decide +kernel
theorem dX10_mostAt_43 : decode mX10_mostAt.2.1 43 = .ok (.iload_n 2, 1) := by decide +kernel
theorem dX10_mostAt_44 : decode mX10_mostAt.2.1 44 = .ok (.ireturn, 1) := by decide +kernel
theorem bX10_mostAt_0 {E : px_E} {d : Nat} {w : pw_W} {Q : Option Value → pw_W → Prop} {t : ct_T} (hw : w.1 = cs t) {x1 : Int32}  
    (k1 : px_W E mX10_mostAt (d + 1) 0 0 4 [.ref 61, .int x1, .int (-1), .int 0] [] w Q) :
    px_W E mX10_mostAt (d + 1) 0 0 0 [.ref 61, .int x1, .null, .null] [] w Q := by
  refine px_iconst dX10_mostAt_0 ic_m1 ?_
  refine px_istore_n (ls' := [.ref 61, .int x1, .int (-1), .null]) dX10_mostAt_1 rfl ⟨by decide, rfl⟩ rfl ?_
  refine px_iconst dX10_mostAt_2 ic_0 ?_
  refine px_istore_n (ls' := [.ref 61, .int x1, .int (-1), .int 0]) dX10_mostAt_3 rfl ⟨by decide, rfl⟩ rfl ?_
  exact k1
theorem eX10_mostAt {E : px_E} {d : Nat} {w : pw_W} {Q : Option Value → pw_W → Prop} {t : ct_T} (hw : w.1 = cs t) {x1 : Int32}  
    (k1 : px_W E mX10_mostAt (d + 1) 0 0 4 [.ref 61, .int x1, .int (-1), .int 0] [] w Q) :
    px_Call E (d + 1) 0 0 mX10_mostAt [.ref 61, .int x1] w Q :=
  px_enter (k := 2) (by decide) (Nat.le_of_ble_eq_true rfl) rfl (px_forget (bX10_mostAt_0 hw k1) ⟨Or.inr rfl, Or.inr rfl, Or.inl rfl, Or.inl rfl, trivial⟩)
theorem bX10_mostAt_4 {E : px_E} {d : Nat} {w : pw_W} {Q : Option Value → pw_W → Prop} {t : ct_T} (hw : w.1 = cs t) {x1 x2 x3 : Int32}  
    (k1 : (pw_I w 61 51) ≤ x3 → Q (some (.int x2)) w)
    (k2 : ¬ (pw_I w 61 51) ≤ x3 → x2 < 0 → px_W E mX10_mostAt (d + 1) 0 0 35 [.ref 61, .int x1, .null, .int x3] [] w Q)
    (k3 : ¬ (pw_I w 61 51) ≤ x3 → ¬ x2 < 0 → px_W E mX10_mostAt (d + 1) 0 0 16 [.ref 61, .int x1, .int x2, .int x3] [] w Q) :
    px_W E mX10_mostAt (d + 1) 0 0 4 [.ref 61, .int x1, .int x2, .int x3] [] w Q := by
  refine px_iload_n dX10_mostAt_4 rfl rfl ?_
  refine px_aload_n dX10_mostAt_5 rfl rfl ?_
  refine px_getI dX10_mostAt_6 fr_10_404 rfl (px_sh1 hw sh_61) ?_
  refine px_icmp_ge (tgt := 43) dX10_mostAt_9 (by decide) (fun h1 => ?_) (fun h1 => ?_)
  ·
    refine px_iload_n dX10_mostAt_43 rfl rfl ?_
    exact px_ireturn dX10_mostAt_44 rfl rfl (k1 h1)
  ·
    refine px_iload_n dX10_mostAt_12 rfl rfl ?_
    refine px_if_lt (tgt := 35) dX10_mostAt_13 (by decide) (fun h2 => ?_) (fun h2 => ?_)
    ·
      exact px_forget (k2 h1 h2) ⟨Or.inr rfl, Or.inr rfl, Or.inl rfl, Or.inr rfl, trivial⟩
    ·
      exact (k3 h1 h2)
theorem bX10_mostAt_16 {E : px_E} {d : Nat} {w : pw_W} {Q : Option Value → pw_W → Prop} {t : ct_T} (hw : w.1 = cs t) {x1 x2 x3 : Int32}  (j1 : Nat) (hj1 : (x1 + x3) = nI j1) (hl1 : j1 < 15) (j2 : Nat) (hj2 : (x1 + x2) = nI j2) (hl2 : j2 < 15)
    (k1 : (pw_I w 89 j1) ≤ (pw_I w 89 j2) → px_W E mX10_mostAt (d + 1) 0 0 37 [.ref 61, .int x1, .int x2, .int x3] [] w Q)
    (k2 : ¬ (pw_I w 89 j1) ≤ (pw_I w 89 j2) → px_W E mX10_mostAt (d + 1) 0 0 35 [.ref 61, .int x1, .null, .int x3] [] w Q) :
    px_W E mX10_mostAt (d + 1) 0 0 16 [.ref 61, .int x1, .int x2, .int x3] [] w Q := by
  refine px_aload_n dX10_mostAt_16 rfl rfl ?_
  refine px_getR (v := 89) dX10_mostAt_17 fr_10_99 rfl (px_sh1 hw sh_61) (px_rf hw rf_61_60) (by decide) ?_
  refine px_iload_n dX10_mostAt_20 rfl rfl ?_
  refine px_iload_n dX10_mostAt_21 rfl rfl ?_
  refine px_iadd dX10_mostAt_22 ?_
  refine px_iald dX10_mostAt_23 (px_sh2 hw sh_89) (by decide) j1 hj1 hl1 ?_
  refine px_aload_n dX10_mostAt_24 rfl rfl ?_
  refine px_getR (v := 89) dX10_mostAt_25 fr_10_99 rfl (px_sh1 hw sh_61) (px_rf hw rf_61_60) (by decide) ?_
  refine px_iload_n dX10_mostAt_28 rfl rfl ?_
  refine px_iload_n dX10_mostAt_29 rfl rfl ?_
  refine px_iadd dX10_mostAt_30 ?_
  refine px_iald dX10_mostAt_31 (px_sh2 hw sh_89) (by decide) j2 hj2 hl2 ?_
  refine px_icmp_le (tgt := 37) dX10_mostAt_32 (by decide) (fun h1 => ?_) (fun h1 => ?_)
  ·
    exact (k1 h1)
  ·
    exact px_forget (k2 h1) ⟨Or.inr rfl, Or.inr rfl, Or.inl rfl, Or.inr rfl, trivial⟩
theorem bX10_mostAt_35 {E : px_E} {d : Nat} {w : pw_W} {Q : Option Value → pw_W → Prop} {t : ct_T} (hw : w.1 = cs t) {x1 x3 : Int32}  
    (k1 : px_W E mX10_mostAt (d + 1) 0 0 37 [.ref 61, .int x1, .int x3, .int x3] [] w Q) :
    px_W E mX10_mostAt (d + 1) 0 0 35 [.ref 61, .int x1, .null, .int x3] [] w Q := by
  refine px_iload_n dX10_mostAt_35 rfl rfl ?_
  refine px_istore_n (ls' := [.ref 61, .int x1, .int x3, .int x3]) dX10_mostAt_36 rfl ⟨by decide, rfl⟩ rfl ?_
  exact k1
theorem bX10_mostAt_37 {E : px_E} {d : Nat} {w : pw_W} {Q : Option Value → pw_W → Prop} {t : ct_T} (hw : w.1 = cs t) {x1 x2 x3 : Int32}  
    (k1 : px_W E mX10_mostAt (d + 1) 0 0 4 [.ref 61, .int x1, .int x2, .int (x3 + 1)] [] w Q) :
    px_W E mX10_mostAt (d + 1) 0 0 37 [.ref 61, .int x1, .int x2, .int x3] [] w Q := by
  refine px_iinc (ls' := [.ref 61, .int x1, .int x2, .int (x3 + 1)]) dX10_mostAt_37 ⟨by decide, rfl⟩ rfl rfl rfl ?_
  refine px_goto (tgt := 4) dX10_mostAt_40 (by decide) ?_
  exact k1
theorem dX10_sorest_0 : decode mX10_sorest.2.1 0 = .ok (.aload_n 0, 1) := by decide +kernel
theorem dX10_sorest_1 : decode mX10_sorest.2.1 1 = .ok (.bipush 6, 2) := by decide +kernel
theorem dX10_sorest_3 : decode mX10_sorest.2.1 3 = .ok (.invokevirtual 545, 3) := by decide +kernel
theorem dX10_sorest_6 : decode mX10_sorest.2.1 6 = .ok (.ireturn, 1) := by decide +kernel
theorem bX10_sorest_0 {E : px_E} {d : Nat} {w : pw_W} {Q : Option Value → pw_W → Prop} {t : ct_T} (hw : w.1 = cs t)  
    (k1 : px_Call E d 0 0 mX10_mostAt [.ref 61, .int 6] w (fun v w' => px_W E mX10_sorest (d + 1) 0 0 6 [.null] (v.toList ++ []) w' Q)) :
    px_W E mX10_sorest (d + 1) 0 0 0 [.ref 61] [] w Q := by
  refine px_aload_n dX10_sorest_0 rfl rfl ?_
  refine px_bipush dX10_sorest_1 bp_6 ?_
  refine px_forget (ls' := [.null]) ?_ ⟨Or.inl rfl, trivial⟩
  exact px_callV (As := [.int 6]) (st := []) (rc := 0) (rs := 0) (mc := 0) (ms := 0) dX10_sorest_3 lk_10_545 (px_sh1 hw sh_61) rfl rfl (Nat.le_of_ble_eq_true rfl) k1
theorem eX10_sorest {E : px_E} {d : Nat} {w : pw_W} {Q : Option Value → pw_W → Prop} {t : ct_T} (hw : w.1 = cs t)  
    (k1 : px_Call E d 0 0 mX10_mostAt [.ref 61, .int 6] w (fun v w' => px_W E mX10_sorest (d + 1) 0 0 6 [.null] (v.toList ++ []) w' Q)) :
    px_Call E (d + 1) 0 0 mX10_sorest [.ref 61] w Q :=
  px_enter (k := 0) (by decide) (Nat.le_of_ble_eq_true rfl) rfl (px_forget (bX10_sorest_0 hw k1) ⟨Or.inr rfl, trivial⟩)
theorem bX10_sorest_6 {E : px_E} {d : Nat} {w : pw_W} {Q : Option Value → pw_W → Prop} {t : ct_T} (hw : w.1 = cs t) {y0 : Int32}  
    (k1 : Q (some (.int y0)) w) :
    px_W E mX10_sorest (d + 1) 0 0 6 [.null] [.int y0] w Q := by
  exact px_ireturn dX10_sorest_6 rfl rfl k1
theorem dX10_firmest_0 : decode mX10_firmest.2.1 0 = .ok (.aload_n 0, 1) := by decide +kernel
theorem dX10_firmest_1 : decode mX10_firmest.2.1 1 = .ok (.iconst 0, 1) := by decide +kernel
theorem dX10_firmest_2 : decode mX10_firmest.2.1 2 = .ok (.invokevirtual 545, 3) := by decide +kernel
theorem dX10_firmest_5 : decode mX10_firmest.2.1 5 = .ok (.ireturn, 1) := by decide +kernel
theorem bX10_firmest_0 {E : px_E} {d : Nat} {w : pw_W} {Q : Option Value → pw_W → Prop} {t : ct_T} (hw : w.1 = cs t)  
    (k1 : px_Call E d 0 0 mX10_mostAt [.ref 61, .int 0] w (fun v w' => px_W E mX10_firmest (d + 1) 0 0 5 [.null] (v.toList ++ []) w' Q)) :
    px_W E mX10_firmest (d + 1) 0 0 0 [.ref 61] [] w Q := by
  refine px_aload_n dX10_firmest_0 rfl rfl ?_
  refine px_iconst dX10_firmest_1 ic_0 ?_
  refine px_forget (ls' := [.null]) ?_ ⟨Or.inl rfl, trivial⟩
  exact px_callV (As := [.int 0]) (st := []) (rc := 0) (rs := 0) (mc := 0) (ms := 0) dX10_firmest_2 lk_10_545 (px_sh1 hw sh_61) rfl rfl (Nat.le_of_ble_eq_true rfl) k1
theorem eX10_firmest {E : px_E} {d : Nat} {w : pw_W} {Q : Option Value → pw_W → Prop} {t : ct_T} (hw : w.1 = cs t)  
    (k1 : px_Call E d 0 0 mX10_mostAt [.ref 61, .int 0] w (fun v w' => px_W E mX10_firmest (d + 1) 0 0 5 [.null] (v.toList ++ []) w' Q)) :
    px_Call E (d + 1) 0 0 mX10_firmest [.ref 61] w Q :=
  px_enter (k := 0) (by decide) (Nat.le_of_ble_eq_true rfl) rfl (px_forget (bX10_firmest_0 hw k1) ⟨Or.inr rfl, trivial⟩)
theorem bX10_firmest_5 {E : px_E} {d : Nat} {w : pw_W} {Q : Option Value → pw_W → Prop} {t : ct_T} (hw : w.1 = cs t) {y0 : Int32}  
    (k1 : Q (some (.int y0)) w) :
    px_W E mX10_firmest (d + 1) 0 0 5 [.null] [.int y0] w Q := by
  exact px_ireturn dX10_firmest_5 rfl rfl k1
theorem dX10_due_0 : decode mX10_due.2.1 0 = .ok (.aload_n 0, 1) := by decide +kernel
theorem dX10_due_1 : decode mX10_due.2.1 1 = .ok (.invokevirtual 480, 3) := by decide +kernel
theorem dX10_due_4 : decode mX10_due.2.1 4 = .ok (.iconst 0, 1) := by decide +kernel
theorem dX10_due_5 : decode mX10_due.2.1 5 = .ok (.istore_n 1, 1) := by decide +kernel
theorem dX10_due_6 : decode mX10_due.2.1 6 = .ok (.iconst 0, 1) := by decide +kernel
theorem dX10_due_7 : decode mX10_due.2.1 7 = .ok (.istore_n 2, 1) := by decide +kernel
theorem dX10_due_8 : decode mX10_due.2.1 8 = .ok (.iload_n 2, 1) := by decide +kernel
theorem dX10_due_9 : decode mX10_due.2.1 9 = .ok (.aload_n 0, 1) := by decide +kernel
theorem dX10_due_10 : decode mX10_due.2.1 10 = .ok (.getfield 407, 3) := by decide +kernel
theorem dX10_due_13 : decode mX10_due.2.1 13 = .ok (.if_icmp .ge 22, 3) := by decide +kernel
theorem dX10_due_16 : decode mX10_due.2.1 16 = .ok (.iload_n 1, 1) := by decide +kernel
theorem dX10_due_17 : decode mX10_due.2.1 17 = .ok (.aload_n 0, 1) := by decide +kernel
theorem dX10_due_18 : decode mX10_due.2.1 18 = .ok (.iload_n 2, 1) := by decide +kernel
theorem dX10_due_19 : decode mX10_due.2.1 19 = .ok (.invokevirtual 465, 3) := by decide +kernel
theorem dX10_due_22 : decode mX10_due.2.1 22 = .ok (.invokestatic 332, 3) := by decide +kernel
theorem dX10_due_25 : decode mX10_due.2.1 25 = .ok (.iload_n 2, 1) := by decide +kernel
theorem dX10_due_26 : decode mX10_due.2.1 26 = .ok (.ishl, 1) := by decide +kernel
theorem dX10_due_27 : decode mX10_due.2.1 27 = .ok (.ior, 1) := by decide +kernel
theorem dX10_due_28 : decode mX10_due.2.1 28 = .ok (.istore_n 1, 1) := by decide +kernel
theorem dX10_due_29 : decode mX10_due.2.1 29 = .ok (.iinc 2 1, 3) := by decide +kernel
theorem dX10_due_32 : decode mX10_due.2.1 32 = .ok (.goto (-24), 3) := by decide +kernel
theorem dX10_due_35 : decode mX10_due.2.1 35 = .ok (.iload_n 1, 1) := by decide +kernel
theorem dX10_due_36 : decode mX10_due.2.1 36 = .ok (.ireturn, 1) := by decide +kernel
theorem bX10_due_0 {E : px_E} {d : Nat} {w : pw_W} {Q : Option Value → pw_W → Prop} {t : ct_T} (hw : w.1 = cs t)  
    (k1 : px_Call E (d + 1) 0 0 mX10_fill [.ref 61] w (fun v w' => px_W E mX10_due (d + 2) 0 0 4 [.ref 61, .null, .null] (v.toList ++ []) w' Q)) :
    px_W E mX10_due (d + 2) 0 0 0 [.ref 61, .null, .null] [] w Q := by
  refine px_aload_n dX10_due_0 rfl rfl ?_
  exact px_callV (As := []) (st := []) (rc := 0) (rs := 0) (mc := 0) (ms := 0) dX10_due_1 lk_10_480 (px_sh1 hw sh_61) rfl rfl (Nat.le_of_ble_eq_true rfl) k1
theorem eX10_due {E : px_E} {d : Nat} {w : pw_W} {Q : Option Value → pw_W → Prop} {t : ct_T} (hw : w.1 = cs t)  
    (k1 : px_Call E (d + 1) 0 0 mX10_fill [.ref 61] w (fun v w' => px_W E mX10_due (d + 2) 0 0 4 [.ref 61, .null, .null] (v.toList ++ []) w' Q)) :
    px_Call E (d + 2) 0 0 mX10_due [.ref 61] w Q :=
  px_enter (k := 2) (by decide) (Nat.le_of_ble_eq_true rfl) rfl (px_forget (bX10_due_0 hw k1) ⟨Or.inr rfl, Or.inl rfl, Or.inl rfl, trivial⟩)
theorem bX10_due_4 {E : px_E} {d : Nat} {w : pw_W} {Q : Option Value → pw_W → Prop} {t : ct_T} (hw : w.1 = cs t)  
    (k1 : px_W E mX10_due (d + 2) 0 0 8 [.ref 61, .int 0, .int 0] [] w Q) :
    px_W E mX10_due (d + 2) 0 0 4 [.ref 61, .null, .null] [] w Q := by
  refine px_iconst dX10_due_4 ic_0 ?_
  refine px_istore_n (ls' := [.ref 61, .int 0, .null]) dX10_due_5 rfl ⟨by decide, rfl⟩ rfl ?_
  refine px_iconst dX10_due_6 ic_0 ?_
  refine px_istore_n (ls' := [.ref 61, .int 0, .int 0]) dX10_due_7 rfl ⟨by decide, rfl⟩ rfl ?_
  exact k1
theorem bX10_due_8 {E : px_E} {d : Nat} {w : pw_W} {Q : Option Value → pw_W → Prop} {t : ct_T} (hw : w.1 = cs t) {x1 x2 : Int32}  
    (k1 : (pw_I w 61 52) ≤ x2 → Q (some (.int x1)) w)
    (k2 : ¬ (pw_I w 61 52) ≤ x2 → px_Call E (d + 1) 0 0 mX10_takesPlace [.ref 61, .int x2] w (fun v w' => px_W E mX10_due (d + 2) 0 0 22 [.ref 61, .null, .int x2] (v.toList ++ [.int x1]) w' Q)) :
    px_W E mX10_due (d + 2) 0 0 8 [.ref 61, .int x1, .int x2] [] w Q := by
  refine px_iload_n dX10_due_8 rfl rfl ?_
  refine px_aload_n dX10_due_9 rfl rfl ?_
  refine px_getI dX10_due_10 fr_10_407 rfl (px_sh1 hw sh_61) ?_
  refine px_icmp_ge (tgt := 35) dX10_due_13 (by decide) (fun h1 => ?_) (fun h1 => ?_)
  ·
    refine px_iload_n dX10_due_35 rfl rfl ?_
    exact px_ireturn dX10_due_36 rfl rfl (k1 h1)
  ·
    refine px_iload_n dX10_due_16 rfl rfl ?_
    refine px_aload_n dX10_due_17 rfl rfl ?_
    refine px_iload_n dX10_due_18 rfl rfl ?_
    refine px_forget (ls' := [.ref 61, .null, .int x2]) ?_ ⟨Or.inr rfl, Or.inl rfl, Or.inr rfl, trivial⟩
    exact px_callV (As := [.int x2]) (st := [.int x1]) (rc := 0) (rs := 0) (mc := 0) (ms := 0) dX10_due_19 lk_10_465 (px_sh1 hw sh_61) rfl rfl (Nat.le_of_ble_eq_true rfl) (k2 h1)
theorem bX10_due_22 {E : px_E} {d : Nat} {w : pw_W} {Q : Option Value → pw_W → Prop} {t : ct_T} (hw : w.1 = cs t) {x2 y0 y1 : Int32}  
    (k1 : px_W E mX10_due (d + 2) 0 0 8 [.ref 61, .int (y0 ||| (js_shl (hX10_truth y1) x2)), .int (x2 + 1)] [] w Q) :
    px_W E mX10_due (d + 2) 0 0 22 [.ref 61, .null, .int x2] [.int y1, .int y0] w Q := by
  refine px_callS (As := [.int y1]) (st := [.int y0]) (rc := 0) (rs := 0) (mc := 0) (ms := 0) dX10_due_22 lk_10_332 rfl rfl (Nat.le_of_ble_eq_true rfl) (sX10_truth ?_)
  show px_W E mX10_due (d + 2) 0 0 25 [.ref 61, .null, .int x2] [.int (hX10_truth y1), .int y0] w Q
  refine px_iload_n dX10_due_25 rfl rfl ?_
  refine px_ishl dX10_due_26 ?_
  refine px_ior dX10_due_27 ?_
  refine px_istore_n (ls' := [.ref 61, .int (y0 ||| (js_shl (hX10_truth y1) x2)), .int x2]) dX10_due_28 rfl ⟨by decide, rfl⟩ rfl ?_
  refine px_iinc (ls' := [.ref 61, .int (y0 ||| (js_shl (hX10_truth y1) x2)), .int (x2 + 1)]) dX10_due_29 ⟨by decide, rfl⟩ rfl rfl rfl ?_
  refine px_goto (tgt := 8) dX10_due_32 (by decide) ?_
  exact k1
theorem dX10_uncared_0 : decode mX10_uncared.2.1 0 = .ok (.iconst 1, 1) := by decide +kernel
theorem dX10_uncared_1 : decode mX10_uncared.2.1 1 = .ok (.aload_n 0, 1) := by decide +kernel
theorem dX10_uncared_2 : decode mX10_uncared.2.1 2 = .ok (.getfield 404, 3) := by decide +kernel
theorem dX10_uncared_5 : decode mX10_uncared.2.1 5 = .ok (.ishl, 1) := by decide +kernel
theorem dX10_uncared_6 : decode mX10_uncared.2.1 6 = .ok (.iconst 1, 1) := by decide +kernel
theorem dX10_uncared_7 : decode mX10_uncared.2.1 7 = .ok (.isub, 1) := by decide +kernel
theorem dX10_uncared_8 : decode mX10_uncared.2.1 8 = .ok (.istore_n 1, 1) := by decide +kernel
theorem dX10_uncared_9 : decode mX10_uncared.2.1 9 = .ok (.iconst 0, 1) := by decide +kernel
theorem dX10_uncared_10 : decode mX10_uncared.2.1 10 = .ok (.istore_n 2, 1) := by decide +kernel
theorem dX10_uncared_11 : decode mX10_uncared.2.1 11 = .ok (.iload_n 2, 1) := by decide +kernel
theorem dX10_uncared_12 : decode mX10_uncared.2.1 12 = .ok (.aload_n 0, 1) := by decide +kernel
theorem dX10_uncared_13 : decode mX10_uncared.2.1 13 = .ok (.getfield 410, 3) := by decide +kernel
theorem dX10_uncared_16 : decode mX10_uncared.2.1 16 = .ok (.if_icmp .ge 45, 3) := by decide +kernel
theorem dX10_uncared_19 : decode mX10_uncared.2.1 19 = .ok (.iconst 0, 1) := by decide +kernel
theorem dX10_uncared_20 : decode mX10_uncared.2.1 20 = .ok (.istore_n 3, 1) := by decide +kernel
theorem dX10_uncared_21 : decode mX10_uncared.2.1 21 = .ok (.iload_n 3, 1) := by decide +kernel
theorem dX10_uncared_22 : decode mX10_uncared.2.1 22 = .ok (.aload_n 0, 1) := by decide +kernel
theorem dX10_uncared_23 : decode mX10_uncared.2.1 23 = .ok (.getfield 93, 3) := by decide +kernel
theorem dX10_uncared_26 : decode mX10_uncared.2.1 26 = .ok (.iload_n 2, 1) := by decide +kernel
theorem dX10_uncared_27 : decode mX10_uncared.2.1 27 = .ok (.iaload, 1) := by decide +kernel
theorem dX10_uncared_28 : decode mX10_uncared.2.1 28 = .ok (.if_icmp .ge 27, 3) := by decide +kernel
theorem dX10_uncared_31 : decode mX10_uncared.2.1 31 = .ok (.iload_n 1, 1) := by decide +kernel
theorem dX10_uncared_32 : decode mX10_uncared.2.1 32 = .ok (.iconst 1, 1) := by decide +kernel
theorem dX10_uncared_33 : decode mX10_uncared.2.1 33 = .ok (.aload_n 0, 1) := by decide +kernel
theorem dX10_uncared_34 : decode mX10_uncared.2.1 34 = .ok (.getfield 90, 3) := by decide +kernel
theorem dX10_uncared_37 : decode mX10_uncared.2.1 37 = .ok (.bipush 6, 2) := by decide +kernel
theorem dX10_uncared_39 : decode mX10_uncared.2.1 39 = .ok (.iload_n 2, 1) := by decide +kernel
theorem dX10_uncared_40 : decode mX10_uncared.2.1 40 = .ok (.imul, 1) := by decide +kernel
theorem dX10_uncared_41 : decode mX10_uncared.2.1 41 = .ok (.iload_n 3, 1) := by decide +kernel
theorem dX10_uncared_42 : decode mX10_uncared.2.1 42 = .ok (.iadd, 1) := by decide +kernel
theorem dX10_uncared_43 : decode mX10_uncared.2.1 43 = .ok (.iaload, 1) := by decide +kernel
theorem dX10_uncared_44 : decode mX10_uncared.2.1 44 = .ok (.ishl, 1) := by decide +kernel
theorem dX10_uncared_45 : decode mX10_uncared.2.1 45 = .ok (.iconst (-1), 1) := by decide +kernel
theorem dX10_uncared_46 : decode mX10_uncared.2.1 46 = .ok (.ixor, 1) := by decide +kernel
theorem dX10_uncared_47 : decode mX10_uncared.2.1 47 = .ok (.iand, 1) := by decide +kernel
theorem dX10_uncared_48 : decode mX10_uncared.2.1 48 = .ok (.istore_n 1, 1) := by decide +kernel
theorem dX10_uncared_49 : decode mX10_uncared.2.1 49 = .ok (.iinc 3 1, 3) := by decide +kernel
theorem dX10_uncared_52 : decode mX10_uncared.2.1 52 = .ok (.goto (-31), 3) := by decide +kernel
theorem dX10_uncared_55 : decode mX10_uncared.2.1 55 = .ok (.iinc 2 1, 3) := by decide +kernel
theorem dX10_uncared_58 : decode mX10_uncared.2.1 58 = .ok (.goto (-47), 3) := by decide +kernel
theorem dX10_uncared_61 : decode mX10_uncared.2.1 61 = .ok (.iload_n 1, 1) := by decide +kernel
theorem dX10_uncared_62 : decode mX10_uncared.2.1 62 = .ok (.ireturn, 1) := by decide +kernel
theorem bX10_uncared_0 {E : px_E} {d : Nat} {w : pw_W} {Q : Option Value → pw_W → Prop} {t : ct_T} (hw : w.1 = cs t)  
    (k1 : px_W E mX10_uncared (d + 1) 0 0 11 [.ref 61, .int ((js_shl 1 (pw_I w 61 51)) - 1), .int 0, .null] [] w Q) :
    px_W E mX10_uncared (d + 1) 0 0 0 [.ref 61, .null, .null, .null] [] w Q := by
  refine px_iconst dX10_uncared_0 ic_1 ?_
  refine px_aload_n dX10_uncared_1 rfl rfl ?_
  refine px_getI dX10_uncared_2 fr_10_404 rfl (px_sh1 hw sh_61) ?_
  refine px_ishl dX10_uncared_5 ?_
  refine px_iconst dX10_uncared_6 ic_1 ?_
  refine px_isub dX10_uncared_7 ?_
  refine px_istore_n (ls' := [.ref 61, .int ((js_shl 1 (pw_I w 61 51)) - 1), .null, .null]) dX10_uncared_8 rfl ⟨by decide, rfl⟩ rfl ?_
  refine px_iconst dX10_uncared_9 ic_0 ?_
  refine px_istore_n (ls' := [.ref 61, .int ((js_shl 1 (pw_I w 61 51)) - 1), .int 0, .null]) dX10_uncared_10 rfl ⟨by decide, rfl⟩ rfl ?_
  exact k1
theorem eX10_uncared {E : px_E} {d : Nat} {w : pw_W} {Q : Option Value → pw_W → Prop} {t : ct_T} (hw : w.1 = cs t)  
    (k1 : px_W E mX10_uncared (d + 1) 0 0 11 [.ref 61, .int ((js_shl 1 (pw_I w 61 51)) - 1), .int 0, .null] [] w Q) :
    px_Call E (d + 1) 0 0 mX10_uncared [.ref 61] w Q :=
  px_enter (k := 3) (by decide) (Nat.le_of_ble_eq_true rfl) rfl (px_forget (bX10_uncared_0 hw k1) ⟨Or.inr rfl, Or.inl rfl, Or.inl rfl, Or.inl rfl, trivial⟩)
theorem bX10_uncared_11 {E : px_E} {d : Nat} {w : pw_W} {Q : Option Value → pw_W → Prop} {t : ct_T} (hw : w.1 = cs t) {x1 x2 : Int32}  
    (k1 : (pw_I w 61 53) ≤ x2 → Q (some (.int x1)) w)
    (k2 : ¬ (pw_I w 61 53) ≤ x2 → px_W E mX10_uncared (d + 1) 0 0 21 [.ref 61, .int x1, .int x2, .int 0] [] w Q) :
    px_W E mX10_uncared (d + 1) 0 0 11 [.ref 61, .int x1, .int x2, .null] [] w Q := by
  refine px_iload_n dX10_uncared_11 rfl rfl ?_
  refine px_aload_n dX10_uncared_12 rfl rfl ?_
  refine px_getI dX10_uncared_13 fr_10_410 rfl (px_sh1 hw sh_61) ?_
  refine px_icmp_ge (tgt := 61) dX10_uncared_16 (by decide) (fun h1 => ?_) (fun h1 => ?_)
  ·
    refine px_iload_n dX10_uncared_61 rfl rfl ?_
    exact px_ireturn dX10_uncared_62 rfl rfl (k1 h1)
  ·
    refine px_iconst dX10_uncared_19 ic_0 ?_
    refine px_istore_n (ls' := [.ref 61, .int x1, .int x2, .int 0]) dX10_uncared_20 rfl ⟨by decide, rfl⟩ rfl ?_
    exact (k2 h1)
theorem bX10_uncared_21 {E : px_E} {d : Nat} {w : pw_W} {Q : Option Value → pw_W → Prop} {t : ct_T} (hw : w.1 = cs t) {x1 x2 x3 : Int32}  (j1 : Nat) (hj1 : x2 = nI j1) (hl1 : j1 < 2)
    (k1 : (pw_I w 88 j1) ≤ x3 → px_W E mX10_uncared (d + 1) 0 0 11 [.ref 61, .int x1, .int (x2 + 1), .null] [] w Q)
    (k2 : ¬ (pw_I w 88 j1) ≤ x3 → px_W E mX10_uncared (d + 1) 0 0 31 [.ref 61, .int x1, .int x2, .int x3] [] w Q) :
    px_W E mX10_uncared (d + 1) 0 0 21 [.ref 61, .int x1, .int x2, .int x3] [] w Q := by
  refine px_iload_n dX10_uncared_21 rfl rfl ?_
  refine px_aload_n dX10_uncared_22 rfl rfl ?_
  refine px_getR (v := 88) dX10_uncared_23 fr_10_93 rfl (px_sh1 hw sh_61) (px_rf hw rf_61_44) (by decide) ?_
  refine px_iload_n dX10_uncared_26 rfl rfl ?_
  refine px_iald dX10_uncared_27 (px_sh2 hw sh_88) (by decide) j1 hj1 hl1 ?_
  refine px_icmp_ge (tgt := 55) dX10_uncared_28 (by decide) (fun h1 => ?_) (fun h1 => ?_)
  ·
    refine px_iinc (ls' := [.ref 61, .int x1, .int (x2 + 1), .int x3]) dX10_uncared_55 ⟨by decide, rfl⟩ rfl rfl rfl ?_
    refine px_goto (tgt := 11) dX10_uncared_58 (by decide) ?_
    exact px_forget (k1 h1) ⟨Or.inr rfl, Or.inr rfl, Or.inr rfl, Or.inl rfl, trivial⟩
  ·
    exact (k2 h1)
theorem bX10_uncared_31 {E : px_E} {d : Nat} {w : pw_W} {Q : Option Value → pw_W → Prop} {t : ct_T} (hw : w.1 = cs t) {x1 x2 x3 : Int32}  (j1 : Nat) (hj1 : ((6 * x2) + x3) = nI j1) (hl1 : j1 < 12)
    (k1 : px_W E mX10_uncared (d + 1) 0 0 21 [.ref 61, .int (x1 &&& ((js_shl 1 (pw_I w 87 j1)) ^^^ (-1))), .int x2, .int (x3 + 1)] [] w Q) :
    px_W E mX10_uncared (d + 1) 0 0 31 [.ref 61, .int x1, .int x2, .int x3] [] w Q := by
  refine px_iload_n dX10_uncared_31 rfl rfl ?_
  refine px_iconst dX10_uncared_32 ic_1 ?_
  refine px_aload_n dX10_uncared_33 rfl rfl ?_
  refine px_getR (v := 87) dX10_uncared_34 fr_10_90 rfl (px_sh1 hw sh_61) (px_rf hw rf_61_43) (by decide) ?_
  refine px_bipush dX10_uncared_37 bp_6 ?_
  refine px_iload_n dX10_uncared_39 rfl rfl ?_
  refine px_imul dX10_uncared_40 ?_
  refine px_iload_n dX10_uncared_41 rfl rfl ?_
  refine px_iadd dX10_uncared_42 ?_
  refine px_iald dX10_uncared_43 (px_sh2 hw sh_87) (by decide) j1 hj1 hl1 ?_
  refine px_ishl dX10_uncared_44 ?_
  refine px_iconst dX10_uncared_45 ic_m1 ?_
  refine px_ixor dX10_uncared_46 ?_
  refine px_iand dX10_uncared_47 ?_
  refine px_istore_n (ls' := [.ref 61, .int (x1 &&& ((js_shl 1 (pw_I w 87 j1)) ^^^ (-1))), .int x2, .int x3]) dX10_uncared_48 rfl ⟨by decide, rfl⟩ rfl ?_
  refine px_iinc (ls' := [.ref 61, .int (x1 &&& ((js_shl 1 (pw_I w 87 j1)) ^^^ (-1))), .int x2, .int (x3 + 1)]) dX10_uncared_49 ⟨by decide, rfl⟩ rfl rfl rfl ?_
  refine px_goto (tgt := 21) dX10_uncared_52 (by decide) ?_
  exact k1
theorem dX10_law_0 : decode mX10_law.2.1 0 = .ok (.iload_n 1, 1) := by decide +kernel
theorem dX10_law_1 : decode mX10_law.2.1 1 = .ok (.iconst 0, 1) := by decide +kernel
theorem dX10_law_2 : decode mX10_law.2.1 2 = .ok (.bipush 30, 2) := by decide +kernel
theorem dX10_law_4 : decode mX10_law.2.1 4 = .ok (.invokestatic 440, 3) := by decide +kernel
theorem dX10_law_7 : decode mX10_law.2.1 7 = .ok (.ifCond .ne 5, 3) := by decide +kernel
theorem dX10_law_10 : decode mX10_law.2.1 10 = .ok (.iconst (-1), 1) := by decide +kernel
theorem dX10_law_11 : decode mX10_law.2.1 11 = .ok (.ireturn, 1) := by decide +kernel
theorem dX10_law_12 : decode mX10_law.2.1 12 = .ok (.aload_n 0, 1) := by decide +kernel
theorem dX10_law_13 : decode mX10_law.2.1 13 = .ok (.invokevirtual 480, 3) := by decide +kernel
theorem dX10_law_16 : decode mX10_law.2.1 16 = .ok (.iconst 0, 1) := by decide +kernel
theorem dX10_law_17 : decode mX10_law.2.1 17 = .ok (.istore_n 2, 1) := by decide +kernel
theorem dX10_law_18 : decode mX10_law.2.1 18 = .ok (.iload_n 2, 1) := by decide +kernel
theorem dX10_law_19 : decode mX10_law.2.1 19 = .ok (.aload_n 0, 1) := by decide +kernel
theorem dX10_law_20 : decode mX10_law.2.1 20 = .ok (.getfield 404, 3) := by decide +kernel
theorem dX10_law_23 : decode mX10_law.2.1 23 = .ok (.if_icmp .ge 16, 3) := by decide +kernel
theorem dX10_law_26 : decode mX10_law.2.1 26 = .ok (.aload_n 0, 1) := by decide +kernel
theorem dX10_law_27 : decode mX10_law.2.1 27 = .ok (.getfield 102, 3) := by decide +kernel
theorem dX10_law_30 : decode mX10_law.2.1 30 = .ok (.iload_n 2, 1) := by decide +kernel
theorem dX10_law_31 : decode mX10_law.2.1 31 = .ok (.iload_n 1, 1) := by decide +kernel
theorem dX10_law_32 : decode mX10_law.2.1 32 = .ok (.iastore, 1) := by decide +kernel
theorem dX10_law_33 : decode mX10_law.2.1 33 = .ok (.iinc 2 1, 3) := by decide +kernel
theorem dX10_law_36 : decode mX10_law.2.1 36 = .ok (.goto (-18), 3) := by decide +kernel
theorem dX10_law_39 : decode mX10_law.2.1 39 = .ok (.aload_n 0, 1) := by decide +kernel
theorem dX10_law_40 : decode mX10_law.2.1 40 = .ok (.bipush 7, 2) := by decide +kernel
theorem dX10_law_42 : decode mX10_law.2.1 42 = .ok (.invokevirtual 507, 3) := by decide +kernel
theorem dX10_law_45 : decode mX10_law.2.1 45 = .ok (.ireturn, 1) := by decide +kernel
theorem bX10_law_0 {E : px_E} {d : Nat} {w : pw_W} {Q : Option Value → pw_W → Prop} {t : ct_T} (hw : w.1 = cs t) {x1 : Int32}  
    (k1 : (pX10_isIn x1 0 30) → px_Call E (d + 1) 0 0 mX10_fill [.ref 61] w (fun v w' => px_W E mX10_law (d + 2) 0 0 16 [.ref 61, .int x1, .null] (v.toList ++ []) w' Q))
    (k2 : ¬ (pX10_isIn x1 0 30) → Q (some (.int (-1))) w) :
    px_W E mX10_law (d + 2) 0 0 0 [.ref 61, .int x1, .null] [] w Q := by
  refine px_iload_n dX10_law_0 rfl rfl ?_
  refine px_iconst dX10_law_1 ic_0 ?_
  refine px_bipush dX10_law_2 bp_30 ?_
  refine px_callS (As := [.int x1, .int 0, .int 30]) (st := []) (rc := 0) (rs := 0) (mc := 0) (ms := 0) dX10_law_4 lk_10_440 rfl rfl (Nat.le_of_ble_eq_true rfl) (sX10_isIn ?_)
  show px_W E mX10_law (d + 2) 0 0 7 [.ref 61, .int x1, .null] [.int (jb (pX10_isIn x1 0 30))] w Q
  refine px_jb_ne (tgt := 12) dX10_law_7 (by decide) (fun h1 => ?_) (fun h1 => ?_)
  ·
    refine px_aload_n dX10_law_12 rfl rfl ?_
    exact px_callV (As := []) (st := []) (rc := 0) (rs := 0) (mc := 0) (ms := 0) dX10_law_13 lk_10_480 (px_sh1 hw sh_61) rfl rfl (Nat.le_of_ble_eq_true rfl) (k1 h1)
  ·
    refine px_iconst dX10_law_10 ic_m1 ?_
    exact px_ireturn dX10_law_11 rfl rfl (k2 h1)
theorem eX10_law {E : px_E} {d : Nat} {w : pw_W} {Q : Option Value → pw_W → Prop} {t : ct_T} (hw : w.1 = cs t) {x1 : Int32}  
    (k1 : (pX10_isIn x1 0 30) → px_Call E (d + 1) 0 0 mX10_fill [.ref 61] w (fun v w' => px_W E mX10_law (d + 2) 0 0 16 [.ref 61, .int x1, .null] (v.toList ++ []) w' Q))
    (k2 : ¬ (pX10_isIn x1 0 30) → Q (some (.int (-1))) w) :
    px_Call E (d + 2) 0 0 mX10_law [.ref 61, .int x1] w Q :=
  px_enter (k := 1) (by decide) (Nat.le_of_ble_eq_true rfl) rfl (px_forget (bX10_law_0 hw k1 k2) ⟨Or.inr rfl, Or.inr rfl, Or.inl rfl, trivial⟩)
theorem bX10_law_16 {E : px_E} {d : Nat} {w : pw_W} {Q : Option Value → pw_W → Prop} {t : ct_T} (hw : w.1 = cs t) {x1 : Int32}  
    (k1 : px_W E mX10_law (d + 2) 0 0 18 [.ref 61, .int x1, .int 0] [] w Q) :
    px_W E mX10_law (d + 2) 0 0 16 [.ref 61, .int x1, .null] [] w Q := by
  refine px_iconst dX10_law_16 ic_0 ?_
  refine px_istore_n (ls' := [.ref 61, .int x1, .int 0]) dX10_law_17 rfl ⟨by decide, rfl⟩ rfl ?_
  exact k1
theorem bX10_law_18 {E : px_E} {d : Nat} {w : pw_W} {Q : Option Value → pw_W → Prop} {t : ct_T} (hw : w.1 = cs t) {x1 x2 : Int32}  
    (k1 : (pw_I w 61 51) ≤ x2 → px_Call E (d + 1) 0 0 mX10_hurtBehind [.ref 61, .int 7] w (fun v w' => px_W E mX10_law (d + 2) 0 0 45 [.null, .null, .null] (v.toList ++ []) w' Q))
    (k2 : ¬ (pw_I w 61 51) ≤ x2 → px_W E mX10_law (d + 2) 0 0 26 [.ref 61, .int x1, .int x2] [] w Q) :
    px_W E mX10_law (d + 2) 0 0 18 [.ref 61, .int x1, .int x2] [] w Q := by
  refine px_iload_n dX10_law_18 rfl rfl ?_
  refine px_aload_n dX10_law_19 rfl rfl ?_
  refine px_getI dX10_law_20 fr_10_404 rfl (px_sh1 hw sh_61) ?_
  refine px_icmp_ge (tgt := 39) dX10_law_23 (by decide) (fun h1 => ?_) (fun h1 => ?_)
  ·
    refine px_aload_n dX10_law_39 rfl rfl ?_
    refine px_bipush dX10_law_40 bp_7 ?_
    refine px_forget (ls' := [.null, .null, .null]) ?_ ⟨Or.inl rfl, Or.inl rfl, Or.inl rfl, trivial⟩
    exact px_callV (As := [.int 7]) (st := []) (rc := 0) (rs := 0) (mc := 0) (ms := 0) dX10_law_42 lk_10_507 (px_sh1 hw sh_61) rfl rfl (Nat.le_of_ble_eq_true rfl) (k1 h1)
  ·
    exact (k2 h1)
theorem bX10_law_26 {E : px_E} {d : Nat} {w : pw_W} {Q : Option Value → pw_W → Prop} {t : ct_T} (hw : w.1 = cs t) {x1 x2 : Int32}  (j1 : Nat) (hj1 : x2 = nI j1) (hl1 : j1 < 15)
    (k1 : px_W E mX10_law (d + 2) 0 0 18 [.ref 61, .int x1, .int (x2 + 1)] [] (pw_sI w 90 j1 x1) Q) :
    px_W E mX10_law (d + 2) 0 0 26 [.ref 61, .int x1, .int x2] [] w Q := by
  refine px_aload_n dX10_law_26 rfl rfl ?_
  refine px_getR (v := 90) dX10_law_27 fr_10_102 rfl (px_sh1 hw sh_61) (px_rf hw rf_61_61) (by decide) ?_
  refine px_iload_n dX10_law_30 rfl rfl ?_
  refine px_iload_n dX10_law_31 rfl rfl ?_
  refine px_iast dX10_law_32 (px_sh2 hw sh_90) (by decide) j1 hj1 hl1 (by omega) ?_
  refine px_iinc (ls' := [.ref 61, .int x1, .int (x2 + 1)]) dX10_law_33 ⟨by decide, rfl⟩ rfl rfl rfl ?_
  refine px_goto (tgt := 18) dX10_law_36 (by decide) ?_
  exact k1
theorem bX10_law_45 {E : px_E} {d : Nat} {w : pw_W} {Q : Option Value → pw_W → Prop} {t : ct_T} (hw : w.1 = cs t) {y0 : Int32}  
    (k1 : Q (some (.int y0)) w) :
    px_W E mX10_law (d + 2) 0 0 45 [.null, .null, .null] [.int y0] w Q := by
  exact px_ireturn dX10_law_45 rfl rfl k1
theorem dX10_next_0 : decode mX10_next.2.1 0 = .ok (.aload_n 0, 1) := by decide +kernel
theorem dX10_next_1 : decode mX10_next.2.1 1 = .ok (.iload_n 1, 1) := by decide +kernel
theorem dX10_next_2 : decode mX10_next.2.1 2 = .ok (.invokevirtual 483, 3) := by decide +kernel
theorem dX10_next_5 : decode mX10_next.2.1 5 = .ok (.ifCond .ne 5, 3) := by decide +kernel
theorem dX10_next_8 : decode mX10_next.2.1 8 = .ok (.iconst (-1), 1) := by decide +kernel
theorem dX10_next_9 : decode mX10_next.2.1 9 = .ok (.ireturn, 1) := by decide +kernel
theorem dX10_next_10 : decode mX10_next.2.1 10 = .ok (.aload_n 0, 1) := by decide +kernel
theorem dX10_next_11 : decode mX10_next.2.1 11 = .ok (.invokevirtual 480, 3) := by decide +kernel
theorem dX10_next_14 : decode mX10_next.2.1 14 = .ok (.iconst 1, 1) := by decide +kernel
theorem dX10_next_15 : decode mX10_next.2.1 15 = .ok (.istore_n 2, 1) := by decide +kernel
theorem dX10_next_16 : decode mX10_next.2.1 16 = .ok (.iload_n 2, 1) := by decide +kernel
theorem dX10_next_17 : decode mX10_next.2.1 17 = .ok (.bipush 60, 2) := by decide +kernel
theorem dX10_next_19 : decode mX10_next.2.1 19 = .ok (.if_icmp .gt 24, 3) := by decide +kernel
theorem dX10_next_22 : decode mX10_next.2.1 22 = .ok (.aload_n 0, 1) := by decide +kernel
theorem dX10_next_23 : decode mX10_next.2.1 23 = .ok (.iconst 0, 1) := by decide +kernel
theorem dX10_next_24 : decode mX10_next.2.1 24 = .ok (.invokevirtual 495, 3) := by decide +kernel
theorem dX10_next_27 : decode mX10_next.2.1 27 = .ok (.iload_n 1, 1) := by decide +kernel
theorem dX10_next_28 : decode mX10_next.2.1 28 = .ok (.ishr, 1) := by decide +kernel
theorem dX10_next_29 : decode mX10_next.2.1 29 = .ok (.iconst 1, 1) := by decide +kernel
theorem dX10_next_30 : decode mX10_next.2.1 30 = .ok (.iand, 1) := by decide +kernel
theorem dX10_next_31 : decode mX10_next.2.1 31 = .ok (.iconst 1, 1) := by decide +kernel
theorem dX10_next_32 : decode mX10_next.2.1 32 = .ok (.if_icmp .ne 5, 3) := by decide +kernel
theorem dX10_next_35 : decode mX10_next.2.1 35 = .ok (.iload_n 2, 1) := by decide +kernel
theorem dX10_next_36 : decode mX10_next.2.1 36 = .ok (.ireturn, 1) := by decide +kernel
theorem dX10_next_37 : decode mX10_next.2.1 37 = .ok (.iinc 2 1, 3) := by decide +kernel
theorem dX10_next_40 : decode mX10_next.2.1 40 = .ok (.goto (-24), 3) := by decide +kernel
theorem dX10_next_43 : decode mX10_next.2.1 43 = .ok (.iconst (-1), 1) := by decide +kernel
theorem dX10_next_44 : decode mX10_next.2.1 44 = .ok (.ireturn, 1) := by decide +kernel
theorem bX10_next_0 {E : px_E} {d : Nat} {w : pw_W} {Q : Option Value → pw_W → Prop} {t : ct_T} (hw : w.1 = cs t) {x1 : Int32}  
    (k1 : (pX10_isMeeting w x1) → px_Call E (d + 2) 0 0 mX10_fill [.ref 61] w (fun v w' => px_W E mX10_next (d + 3) 0 0 14 [.ref 61, .int x1, .null] (v.toList ++ []) w' Q))
    (k2 : ¬ (pX10_isMeeting w x1) → Q (some (.int (-1))) w) :
    px_W E mX10_next (d + 3) 0 0 0 [.ref 61, .int x1, .null] [] w Q := by
  refine px_aload_n dX10_next_0 rfl rfl ?_
  refine px_iload_n dX10_next_1 rfl rfl ?_
  refine px_callV (As := [.int x1]) (st := []) (rc := 0) (rs := 0) (mc := 0) (ms := 0) dX10_next_2 lk_10_483 (px_sh1 hw sh_61) rfl rfl (Nat.le_of_ble_eq_true rfl) (sX10_isMeeting (w := w) hw ?_)
  show px_W E mX10_next (d + 3) 0 0 5 [.ref 61, .int x1, .null] [.int (jb (pX10_isMeeting w x1))] w Q
  refine px_jb_ne (tgt := 10) dX10_next_5 (by decide) (fun h1 => ?_) (fun h1 => ?_)
  ·
    refine px_aload_n dX10_next_10 rfl rfl ?_
    exact px_callV (As := []) (st := []) (rc := 0) (rs := 0) (mc := 0) (ms := 0) dX10_next_11 lk_10_480 (px_sh1 hw sh_61) rfl rfl (Nat.le_of_ble_eq_true rfl) (k1 h1)
  ·
    refine px_iconst dX10_next_8 ic_m1 ?_
    exact px_ireturn dX10_next_9 rfl rfl (k2 h1)
theorem eX10_next {E : px_E} {d : Nat} {w : pw_W} {Q : Option Value → pw_W → Prop} {t : ct_T} (hw : w.1 = cs t) {x1 : Int32}  
    (k1 : (pX10_isMeeting w x1) → px_Call E (d + 2) 0 0 mX10_fill [.ref 61] w (fun v w' => px_W E mX10_next (d + 3) 0 0 14 [.ref 61, .int x1, .null] (v.toList ++ []) w' Q))
    (k2 : ¬ (pX10_isMeeting w x1) → Q (some (.int (-1))) w) :
    px_Call E (d + 3) 0 0 mX10_next [.ref 61, .int x1] w Q :=
  px_enter (k := 1) (by decide) (Nat.le_of_ble_eq_true rfl) rfl (px_forget (bX10_next_0 hw k1 k2) ⟨Or.inr rfl, Or.inr rfl, Or.inl rfl, trivial⟩)
theorem bX10_next_14 {E : px_E} {d : Nat} {w : pw_W} {Q : Option Value → pw_W → Prop} {t : ct_T} (hw : w.1 = cs t) {x1 : Int32}  
    (k1 : px_W E mX10_next (d + 3) 0 0 16 [.ref 61, .int x1, .int 1] [] w Q) :
    px_W E mX10_next (d + 3) 0 0 14 [.ref 61, .int x1, .null] [] w Q := by
  refine px_iconst dX10_next_14 ic_1 ?_
  refine px_istore_n (ls' := [.ref 61, .int x1, .int 1]) dX10_next_15 rfl ⟨by decide, rfl⟩ rfl ?_
  exact k1
theorem bX10_next_16 {E : px_E} {d : Nat} {w : pw_W} {Q : Option Value → pw_W → Prop} {t : ct_T} (hw : w.1 = cs t) {x1 x2 : Int32}  
    (k1 : 60 < x2 → Q (some (.int (-1))) w)
    (k2 : ¬ 60 < x2 → px_Call E (d + 2) 0 0 mX10_goDay [.ref 61, .int 0] w (fun v w' => px_W E mX10_next (d + 3) 0 0 27 [.ref 61, .int x1, .int x2] (v.toList ++ []) w' Q)) :
    px_W E mX10_next (d + 3) 0 0 16 [.ref 61, .int x1, .int x2] [] w Q := by
  refine px_iload_n dX10_next_16 rfl rfl ?_
  refine px_bipush dX10_next_17 bp_60 ?_
  refine px_icmp_gt (tgt := 43) dX10_next_19 (by decide) (fun h1 => ?_) (fun h1 => ?_)
  ·
    refine px_iconst dX10_next_43 ic_m1 ?_
    exact px_ireturn dX10_next_44 rfl rfl (k1 h1)
  ·
    refine px_aload_n dX10_next_22 rfl rfl ?_
    refine px_iconst dX10_next_23 ic_0 ?_
    exact px_callV (As := [.int 0]) (st := []) (rc := 0) (rs := 0) (mc := 0) (ms := 0) dX10_next_24 lk_10_495 (px_sh1 hw sh_61) rfl rfl (Nat.le_of_ble_eq_true rfl) (k2 h1)
theorem bX10_next_27 {E : px_E} {d : Nat} {w : pw_W} {Q : Option Value → pw_W → Prop} {t : ct_T} (hw : w.1 = cs t) {x1 x2 y0 : Int32}  
    (k1 : ¬ ((js_shr y0 x1) &&& 1) = 1 → px_W E mX10_next (d + 3) 0 0 16 [.ref 61, .int x1, .int (x2 + 1)] [] w Q)
    (k2 : ((js_shr y0 x1) &&& 1) = 1 → Q (some (.int x2)) w) :
    px_W E mX10_next (d + 3) 0 0 27 [.ref 61, .int x1, .int x2] [.int y0] w Q := by
  refine px_iload_n dX10_next_27 rfl rfl ?_
  refine px_ishr dX10_next_28 ?_
  refine px_iconst dX10_next_29 ic_1 ?_
  refine px_iand dX10_next_30 ?_
  refine px_iconst dX10_next_31 ic_1 ?_
  refine px_icmp_ne (tgt := 37) dX10_next_32 (by decide) (fun h1 => ?_) (fun h1 => ?_)
  ·
    refine px_iinc (ls' := [.ref 61, .int x1, .int (x2 + 1)]) dX10_next_37 ⟨by decide, rfl⟩ rfl rfl rfl ?_
    refine px_goto (tgt := 16) dX10_next_40 (by decide) ?_
    exact (k1 h1)
  ·
    refine px_iload_n dX10_next_35 rfl rfl ?_
    exact px_ireturn dX10_next_36 rfl rfl (k2 h1)
theorem dX10_divisor_0 : decode mX10_divisor.2.1 0 = .ok (.iload_n 0, 1) := by decide +kernel
theorem dX10_divisor_1 : decode mX10_divisor.2.1 1 = .ok (.istore_n 2, 1) := by decide +kernel
theorem dX10_divisor_2 : decode mX10_divisor.2.1 2 = .ok (.iload_n 1, 1) := by decide +kernel
theorem dX10_divisor_3 : decode mX10_divisor.2.1 3 = .ok (.istore_n 3, 1) := by decide +kernel
theorem dX10_divisor_4 : decode mX10_divisor.2.1 4 = .ok (.iload_n 3, 1) := by decide +kernel
theorem dX10_divisor_5 : decode mX10_divisor.2.1 5 = .ok (.ifCond .le 16, 3) := by decide +kernel
theorem dX10_divisor_8 : decode mX10_divisor.2.1 8 = .ok (.iload_n 2, 1) := by decide +kernel
theorem dX10_divisor_9 : decode mX10_divisor.2.1 9 = .ok (.iload_n 3, 1) := by decide +kernel
theorem dX10_divisor_10 : decode mX10_divisor.2.1 10 = .ok (.irem, 1) := by decide +kernel
theorem dX10_divisor_11 : decode mX10_divisor.2.1 11 = .ok (.istore 4, 2) := by decide +kernel
theorem dX10_divisor_13 : decode mX10_divisor.2.1 13 = .ok (.iload_n 3, 1) := by decide +kernel
theorem dX10_divisor_14 : decode mX10_divisor.2.1 14 = .ok (.istore_n 2, 1) := by decide +kernel
theorem dX10_divisor_15 : decode mX10_divisor.2.1 15 = .ok (.iload 4, 2) := by decide +kernel
theorem dX10_divisor_17 : decode mX10_divisor.2.1 17 = .ok (.istore_n 3, 1) := by decide +kernel
theorem dX10_divisor_18 : decode mX10_divisor.2.1 18 = .ok (.goto (-14), 3) := by decide +kernel
theorem dX10_divisor_21 : decode mX10_divisor.2.1 21 = .ok (.iload_n 2, 1) := by decide +kernel
theorem dX10_divisor_22 : decode mX10_divisor.2.1 22 = .ok (.ireturn, 1) := by decide +kernel
theorem bX10_divisor_0 {E : px_E} {d : Nat} {w : pw_W} {Q : Option Value → pw_W → Prop} {x0 x1 : Int32}  
    (k1 : px_W E mX10_divisor (d + 1) 0 0 4 [.null, .null, .int x0, .int x1, .null] [] w Q) :
    px_W E mX10_divisor (d + 1) 0 0 0 [.int x0, .int x1, .null, .null, .null] [] w Q := by
  refine px_iload_n dX10_divisor_0 rfl rfl ?_
  refine px_istore_n (ls' := [.int x0, .int x1, .int x0, .null, .null]) dX10_divisor_1 rfl ⟨by decide, rfl⟩ rfl ?_
  refine px_iload_n dX10_divisor_2 rfl rfl ?_
  refine px_istore_n (ls' := [.int x0, .int x1, .int x0, .int x1, .null]) dX10_divisor_3 rfl ⟨by decide, rfl⟩ rfl ?_
  exact px_forget k1 ⟨Or.inl rfl, Or.inl rfl, Or.inr rfl, Or.inr rfl, Or.inl rfl, trivial⟩
theorem eX10_divisor {E : px_E} {d : Nat} {w : pw_W} {Q : Option Value → pw_W → Prop} {x0 x1 : Int32}  
    (k1 : px_W E mX10_divisor (d + 1) 0 0 4 [.null, .null, .int x0, .int x1, .null] [] w Q) :
    px_Call E (d + 1) 0 0 mX10_divisor [.int x0, .int x1] w Q :=
  px_enter (k := 3) (by decide) (Nat.le_of_ble_eq_true rfl) rfl (px_forget (bX10_divisor_0 k1) ⟨Or.inr rfl, Or.inr rfl, Or.inl rfl, Or.inl rfl, Or.inl rfl, trivial⟩)
theorem bX10_divisor_4 {E : px_E} {d : Nat} {w : pw_W} {Q : Option Value → pw_W → Prop} {x2 x3 : Int32}  
    (k1 : x3 ≤ 0 → Q (some (.int x2)) w)
    (k2 : ¬ x3 ≤ 0 → px_W E mX10_divisor (d + 1) 0 0 8 [.null, .null, .int x2, .int x3, .null] [] w Q) :
    px_W E mX10_divisor (d + 1) 0 0 4 [.null, .null, .int x2, .int x3, .null] [] w Q := by
  refine px_iload_n dX10_divisor_4 rfl rfl ?_
  refine px_if_le (tgt := 21) dX10_divisor_5 (by decide) (fun h1 => ?_) (fun h1 => ?_)
  ·
    refine px_iload_n dX10_divisor_21 rfl rfl ?_
    exact px_ireturn dX10_divisor_22 rfl rfl (k1 h1)
  ·
    exact (k2 h1)
theorem bX10_divisor_8 {E : px_E} {d : Nat} {w : pw_W} {Q : Option Value → pw_W → Prop} {x2 x3 : Int32}  (hz1 : ¬ x3 = 0)
    (k1 : px_W E mX10_divisor (d + 1) 0 0 4 [.null, .null, .int x3, .int (js_rem x2 x3), .null] [] w Q) :
    px_W E mX10_divisor (d + 1) 0 0 8 [.null, .null, .int x2, .int x3, .null] [] w Q := by
  refine px_iload_n dX10_divisor_8 rfl rfl ?_
  refine px_iload_n dX10_divisor_9 rfl rfl ?_
  refine px_irem dX10_divisor_10 hz1 ?_
  refine px_istore (ls' := [.null, .null, .int x2, .int x3, .int (js_rem x2 x3)]) dX10_divisor_11 ⟨by decide, rfl⟩ rfl ?_
  refine px_iload_n dX10_divisor_13 rfl rfl ?_
  refine px_istore_n (ls' := [.null, .null, .int x3, .int x3, .int (js_rem x2 x3)]) dX10_divisor_14 rfl ⟨by decide, rfl⟩ rfl ?_
  refine px_iload dX10_divisor_15 rfl ?_
  refine px_istore_n (ls' := [.null, .null, .int x3, .int (js_rem x2 x3), .int (js_rem x2 x3)]) dX10_divisor_17 rfl ⟨by decide, rfl⟩ rfl ?_
  refine px_goto (tgt := 4) dX10_divisor_18 (by decide) ?_
  exact px_forget k1 ⟨Or.inl rfl, Or.inl rfl, Or.inr rfl, Or.inr rfl, Or.inl rfl, trivial⟩
theorem dX10_odds_0 : decode mX10_odds.2.1 0 = .ok (.iload_n 1, 1) := by decide +kernel
theorem dX10_odds_1 : decode mX10_odds.2.1 1 = .ok (.iconst 0, 1) := by decide +kernel
theorem dX10_odds_2 : decode mX10_odds.2.1 2 = .ok (.iconst 4, 1) := by decide +kernel
theorem dX10_odds_3 : decode mX10_odds.2.1 3 = .ok (.invokestatic 440, 3) := by decide +kernel
theorem dX10_odds_6 : decode mX10_odds.2.1 6 = .ok (.ifCond .eq 12, 3) := by decide +kernel
theorem dX10_odds_9 : decode mX10_odds.2.1 9 = .ok (.iload_n 2, 1) := by decide +kernel
theorem dX10_odds_10 : decode mX10_odds.2.1 10 = .ok (.iconst 0, 1) := by decide +kernel
theorem dX10_odds_11 : decode mX10_odds.2.1 11 = .ok (.iconst 1, 1) := by decide +kernel
theorem dX10_odds_12 : decode mX10_odds.2.1 12 = .ok (.invokestatic 440, 3) := by decide +kernel
theorem dX10_odds_15 : decode mX10_odds.2.1 15 = .ok (.ifCond .ne 5, 3) := by decide +kernel
theorem dX10_odds_18 : decode mX10_odds.2.1 18 = .ok (.iconst (-1), 1) := by decide +kernel
theorem dX10_odds_19 : decode mX10_odds.2.1 19 = .ok (.ireturn, 1) := by decide +kernel
theorem dX10_odds_20 : decode mX10_odds.2.1 20 = .ok (.bipush 100, 2) := by decide +kernel
theorem dX10_odds_22 : decode mX10_odds.2.1 22 = .ok (.aload_n 0, 1) := by decide +kernel
theorem dX10_odds_23 : decode mX10_odds.2.1 23 = .ok (.getfield 413, 3) := by decide +kernel
theorem dX10_odds_26 : decode mX10_odds.2.1 26 = .ok (.isub, 1) := by decide +kernel
theorem dX10_odds_27 : decode mX10_odds.2.1 27 = .ok (.iload_n 1, 1) := by decide +kernel
theorem dX10_odds_28 : decode mX10_odds.2.1 28 = .ok (.invokestatic 533, 3) := by decide +kernel
theorem dX10_odds_31 : decode mX10_odds.2.1 31 = .ok (.istore_n 3, 1) := by decide +kernel
theorem dX10_odds_32 : decode mX10_odds.2.1 32 = .ok (.bipush 100, 2) := by decide +kernel
theorem dX10_odds_34 : decode mX10_odds.2.1 34 = .ok (.iload_n 1, 1) := by decide +kernel
theorem dX10_odds_35 : decode mX10_odds.2.1 35 = .ok (.invokestatic 533, 3) := by decide +kernel
theorem dX10_odds_38 : decode mX10_odds.2.1 38 = .ok (.istore 4, 2) := by decide +kernel
theorem dX10_odds_40 : decode mX10_odds.2.1 40 = .ok (.iload 4, 2) := by decide +kernel
theorem dX10_odds_42 : decode mX10_odds.2.1 42 = .ok (.iload_n 3, 1) := by decide +kernel
theorem dX10_odds_43 : decode mX10_odds.2.1 43 = .ok (.invokestatic 548, 3) := by decide +kernel
theorem dX10_odds_46 : decode mX10_odds.2.1 46 = .ok (.istore 5, 2) := by decide +kernel
theorem dX10_odds_48 : decode mX10_odds.2.1 48 = .ok (.iload_n 2, 1) := by decide +kernel
theorem dX10_odds_49 : decode mX10_odds.2.1 49 = .ok (.ifCond .ne 10, 3) := by decide +kernel
theorem dX10_odds_52 : decode mX10_odds.2.1 52 = .ok (.iload_n 3, 1) := by decide +kernel
theorem dX10_odds_53 : decode mX10_odds.2.1 53 = .ok (.iload 5, 2) := by decide +kernel
theorem dX10_odds_55 : decode mX10_odds.2.1 55 = .ok (.idiv, 1) := by decide +kernel
theorem dX10_odds_56 : decode mX10_odds.2.1 56 = .ok (.goto 8, 3) := by decide +kernel
theorem dX10_odds_59 : decode mX10_odds.2.1 59 = .ok (.iload 4, 2) := by decide +kernel
theorem dX10_odds_61 : decode mX10_odds.2.1 61 = .ok (.iload 5, 2) := by decide +kernel
theorem dX10_odds_63 : decode mX10_odds.2.1 63 = .ok (.idiv, 1) := by decide +kernel
theorem dX10_odds_64 : decode mX10_odds.2.1 64 = .ok (.ireturn, 1) := by decide +kernel
theorem bX10_odds_0 {E : px_E} {d : Nat} {w : pw_W} {Q : Option Value → pw_W → Prop} {t : ct_T} (hw : w.1 = cs t) {x1 x2 : Int32}  
    (k1 : ¬ (pX10_isIn x1 0 4) → px_W E mX10_odds (d + 2) 0 0 18 [.null, .null, .null, .null, .null, .null] [] w Q)
    (k2 : (pX10_isIn x1 0 4) → (pX10_isIn x2 0 1) → px_Call E (d + 1) 0 0 mX10_power [.int (100 - (pw_I w 61 55)), .int x1] w (fun v w' => px_W E mX10_odds (d + 2) 0 0 31 [.null, .int x1, .int x2, .null, .null, .null] (v.toList ++ []) w' Q))
    (k3 : (pX10_isIn x1 0 4) → ¬ (pX10_isIn x2 0 1) → px_W E mX10_odds (d + 2) 0 0 18 [.null, .null, .null, .null, .null, .null] [] w Q) :
    px_W E mX10_odds (d + 2) 0 0 0 [.ref 61, .int x1, .int x2, .null, .null, .null] [] w Q := by
  refine px_iload_n dX10_odds_0 rfl rfl ?_
  refine px_iconst dX10_odds_1 ic_0 ?_
  refine px_iconst dX10_odds_2 ic_4 ?_
  refine px_callS (As := [.int x1, .int 0, .int 4]) (st := []) (rc := 0) (rs := 0) (mc := 0) (ms := 0) dX10_odds_3 lk_10_440 rfl rfl (Nat.le_of_ble_eq_true rfl) (sX10_isIn ?_)
  show px_W E mX10_odds (d + 2) 0 0 6 [.ref 61, .int x1, .int x2, .null, .null, .null] [.int (jb (pX10_isIn x1 0 4))] w Q
  refine px_jb_eq (tgt := 18) dX10_odds_6 (by decide) (fun h1 => ?_) (fun h1 => ?_)
  ·
    exact px_forget (k1 h1) ⟨Or.inl rfl, Or.inl rfl, Or.inl rfl, Or.inl rfl, Or.inl rfl, Or.inl rfl, trivial⟩
  ·
    refine px_iload_n dX10_odds_9 rfl rfl ?_
    refine px_iconst dX10_odds_10 ic_0 ?_
    refine px_iconst dX10_odds_11 ic_1 ?_
    refine px_callS (As := [.int x2, .int 0, .int 1]) (st := []) (rc := 0) (rs := 0) (mc := 0) (ms := 0) dX10_odds_12 lk_10_440 rfl rfl (Nat.le_of_ble_eq_true rfl) (sX10_isIn ?_)
    show px_W E mX10_odds (d + 2) 0 0 15 [.ref 61, .int x1, .int x2, .null, .null, .null] [.int (jb (pX10_isIn x2 0 1))] w Q
    refine px_jb_ne (tgt := 20) dX10_odds_15 (by decide) (fun h2 => ?_) (fun h2 => ?_)
    ·
      refine px_bipush dX10_odds_20 bp_100 ?_
      refine px_aload_n dX10_odds_22 rfl rfl ?_
      refine px_getI dX10_odds_23 fr_10_413 rfl (px_sh1 hw sh_61) ?_
      refine px_isub dX10_odds_26 ?_
      refine px_iload_n dX10_odds_27 rfl rfl ?_
      refine px_forget (ls' := [.null, .int x1, .int x2, .null, .null, .null]) ?_ ⟨Or.inl rfl, Or.inr rfl, Or.inr rfl, Or.inl rfl, Or.inl rfl, Or.inl rfl, trivial⟩
      exact px_callS (As := [.int (100 - (pw_I w 61 55)), .int x1]) (st := []) (rc := 0) (rs := 0) (mc := 0) (ms := 0) dX10_odds_28 lk_10_533 rfl rfl (Nat.le_of_ble_eq_true rfl) (k2 h1 h2)
    ·
      exact px_forget (k3 h1 h2) ⟨Or.inl rfl, Or.inl rfl, Or.inl rfl, Or.inl rfl, Or.inl rfl, Or.inl rfl, trivial⟩
theorem eX10_odds {E : px_E} {d : Nat} {w : pw_W} {Q : Option Value → pw_W → Prop} {t : ct_T} (hw : w.1 = cs t) {x1 x2 : Int32}  
    (k1 : ¬ (pX10_isIn x1 0 4) → px_W E mX10_odds (d + 2) 0 0 18 [.null, .null, .null, .null, .null, .null] [] w Q)
    (k2 : (pX10_isIn x1 0 4) → (pX10_isIn x2 0 1) → px_Call E (d + 1) 0 0 mX10_power [.int (100 - (pw_I w 61 55)), .int x1] w (fun v w' => px_W E mX10_odds (d + 2) 0 0 31 [.null, .int x1, .int x2, .null, .null, .null] (v.toList ++ []) w' Q))
    (k3 : (pX10_isIn x1 0 4) → ¬ (pX10_isIn x2 0 1) → px_W E mX10_odds (d + 2) 0 0 18 [.null, .null, .null, .null, .null, .null] [] w Q) :
    px_Call E (d + 2) 0 0 mX10_odds [.ref 61, .int x1, .int x2] w Q :=
  px_enter (k := 3) (by decide) (Nat.le_of_ble_eq_true rfl) rfl (px_forget (bX10_odds_0 hw k1 k2 k3) ⟨Or.inr rfl, Or.inr rfl, Or.inr rfl, Or.inl rfl, Or.inl rfl, Or.inl rfl, trivial⟩)
theorem bX10_odds_18 {E : px_E} {d : Nat} {w : pw_W} {Q : Option Value → pw_W → Prop} {t : ct_T} (hw : w.1 = cs t)  
    (k1 : Q (some (.int (-1))) w) :
    px_W E mX10_odds (d + 2) 0 0 18 [.null, .null, .null, .null, .null, .null] [] w Q := by
  refine px_iconst dX10_odds_18 ic_m1 ?_
  exact px_ireturn dX10_odds_19 rfl rfl k1
theorem bX10_odds_31 {E : px_E} {d : Nat} {w : pw_W} {Q : Option Value → pw_W → Prop} {t : ct_T} (hw : w.1 = cs t) {x1 x2 y0 : Int32}  
    (k1 : px_Call E (d + 1) 0 0 mX10_power [.int 100, .int x1] w (fun v w' => px_W E mX10_odds (d + 2) 0 0 38 [.null, .null, .int x2, .int y0, .null, .null] (v.toList ++ []) w' Q)) :
    px_W E mX10_odds (d + 2) 0 0 31 [.null, .int x1, .int x2, .null, .null, .null] [.int y0] w Q := by
  refine px_istore_n (ls' := [.null, .int x1, .int x2, .int y0, .null, .null]) dX10_odds_31 rfl ⟨by decide, rfl⟩ rfl ?_
  refine px_bipush dX10_odds_32 bp_100 ?_
  refine px_iload_n dX10_odds_34 rfl rfl ?_
  refine px_forget (ls' := [.null, .null, .int x2, .int y0, .null, .null]) ?_ ⟨Or.inl rfl, Or.inl rfl, Or.inr rfl, Or.inr rfl, Or.inl rfl, Or.inl rfl, trivial⟩
  exact px_callS (As := [.int 100, .int x1]) (st := []) (rc := 0) (rs := 0) (mc := 0) (ms := 0) dX10_odds_35 lk_10_533 rfl rfl (Nat.le_of_ble_eq_true rfl) k1
theorem bX10_odds_38 {E : px_E} {d : Nat} {w : pw_W} {Q : Option Value → pw_W → Prop} {t : ct_T} (hw : w.1 = cs t) {x2 x3 y0 : Int32}  
    (k1 : px_Call E (d + 1) 0 0 mX10_divisor [.int y0, .int x3] w (fun v w' => px_W E mX10_odds (d + 2) 0 0 46 [.null, .null, .int x2, .int x3, .int y0, .null] (v.toList ++ []) w' Q)) :
    px_W E mX10_odds (d + 2) 0 0 38 [.null, .null, .int x2, .int x3, .null, .null] [.int y0] w Q := by
  refine px_istore (ls' := [.null, .null, .int x2, .int x3, .int y0, .null]) dX10_odds_38 ⟨by decide, rfl⟩ rfl ?_
  refine px_iload dX10_odds_40 rfl ?_
  refine px_iload_n dX10_odds_42 rfl rfl ?_
  exact px_callS (As := [.int y0, .int x3]) (st := []) (rc := 0) (rs := 0) (mc := 0) (ms := 0) dX10_odds_43 lk_10_548 rfl rfl (Nat.le_of_ble_eq_true rfl) k1
theorem bX10_odds_46 {E : px_E} {d : Nat} {w : pw_W} {Q : Option Value → pw_W → Prop} {t : ct_T} (hw : w.1 = cs t) {x2 x3 x4 y0 : Int32}  
    (k1 : ¬ x2 = 0 → px_W E mX10_odds (d + 2) 0 0 59 [.null, .null, .null, .null, .int x4, .int y0] [] w Q)
    (k2 : x2 = 0 → px_W E mX10_odds (d + 2) 0 0 52 [.null, .null, .null, .int x3, .null, .int y0] [] w Q) :
    px_W E mX10_odds (d + 2) 0 0 46 [.null, .null, .int x2, .int x3, .int x4, .null] [.int y0] w Q := by
  refine px_istore (ls' := [.null, .null, .int x2, .int x3, .int x4, .int y0]) dX10_odds_46 ⟨by decide, rfl⟩ rfl ?_
  refine px_iload_n dX10_odds_48 rfl rfl ?_
  refine px_if_ne (tgt := 59) dX10_odds_49 (by decide) (fun h1 => ?_) (fun h1 => ?_)
  ·
    exact px_forget (k1 h1) ⟨Or.inl rfl, Or.inl rfl, Or.inl rfl, Or.inl rfl, Or.inr rfl, Or.inr rfl, trivial⟩
  ·
    exact px_forget (k2 h1) ⟨Or.inl rfl, Or.inl rfl, Or.inl rfl, Or.inr rfl, Or.inl rfl, Or.inr rfl, trivial⟩
theorem bX10_odds_52 {E : px_E} {d : Nat} {w : pw_W} {Q : Option Value → pw_W → Prop} {t : ct_T} (hw : w.1 = cs t) {x3 x5 : Int32}  (hz1 : ¬ x5 = 0)
    (k1 : px_W E mX10_odds (d + 2) 0 0 64 [.null, .null, .null, .null, .null, .null] [.int (x3 / x5)] w Q) :
    px_W E mX10_odds (d + 2) 0 0 52 [.null, .null, .null, .int x3, .null, .int x5] [] w Q := by
  refine px_iload_n dX10_odds_52 rfl rfl ?_
  refine px_iload dX10_odds_53 rfl ?_
  refine px_idiv dX10_odds_55 hz1 ?_
  refine px_goto (tgt := 64) dX10_odds_56 (by decide) ?_
  exact px_forget k1 ⟨Or.inl rfl, Or.inl rfl, Or.inl rfl, Or.inl rfl, Or.inl rfl, Or.inl rfl, trivial⟩
theorem bX10_odds_59 {E : px_E} {d : Nat} {w : pw_W} {Q : Option Value → pw_W → Prop} {t : ct_T} (hw : w.1 = cs t) {x4 x5 : Int32}  (hz1 : ¬ x5 = 0)
    (k1 : px_W E mX10_odds (d + 2) 0 0 64 [.null, .null, .null, .null, .null, .null] [.int (x4 / x5)] w Q) :
    px_W E mX10_odds (d + 2) 0 0 59 [.null, .null, .null, .null, .int x4, .int x5] [] w Q := by
  refine px_iload dX10_odds_59 rfl ?_
  refine px_iload dX10_odds_61 rfl ?_
  refine px_idiv dX10_odds_63 hz1 ?_
  exact px_forget k1 ⟨Or.inl rfl, Or.inl rfl, Or.inl rfl, Or.inl rfl, Or.inl rfl, Or.inl rfl, trivial⟩
theorem bX10_odds_64 {E : px_E} {d : Nat} {w : pw_W} {Q : Option Value → pw_W → Prop} {t : ct_T} (hw : w.1 = cs t) {y0 : Int32}  
    (k1 : Q (some (.int y0)) w) :
    px_W E mX10_odds (d + 2) 0 0 64 [.null, .null, .null, .null, .null, .null] [.int y0] w Q := by
  exact px_ireturn dX10_odds_64 rfl rfl k1
theorem dX10_lies_0 : decode mX10_lies.2.1 0 = .ok (.iload_n 1, 1) := by decide +kernel
theorem dX10_lies_1 : decode mX10_lies.2.1 1 = .ok (.iconst 0, 1) := by decide +kernel
theorem dX10_lies_2 : decode mX10_lies.2.1 2 = .ok (.aload_n 0, 1) := by decide +kernel
theorem dX10_lies_3 : decode mX10_lies.2.1 3 = .ok (.getfield 437, 3) := by decide +kernel
theorem dX10_lies_6 : decode mX10_lies.2.1 6 = .ok (.iconst 1, 1) := by decide +kernel
theorem dX10_lies_7 : decode mX10_lies.2.1 7 = .ok (.isub, 1) := by decide +kernel
theorem dX10_lies_8 : decode mX10_lies.2.1 8 = .ok (.invokestatic 440, 3) := by decide +kernel
theorem dX10_lies_11 : decode mX10_lies.2.1 11 = .ok (.ifCond .eq 12, 3) := by decide +kernel
theorem dX10_lies_14 : decode mX10_lies.2.1 14 = .ok (.aload_n 0, 1) := by decide +kernel
theorem dX10_lies_15 : decode mX10_lies.2.1 15 = .ok (.getfield 108, 3) := by decide +kernel
theorem dX10_lies_18 : decode mX10_lies.2.1 18 = .ok (.iload_n 1, 1) := by decide +kernel
theorem dX10_lies_19 : decode mX10_lies.2.1 19 = .ok (.iaload, 1) := by decide +kernel
theorem dX10_lies_20 : decode mX10_lies.2.1 20 = .ok (.goto 5, 3) := by decide +kernel
theorem dX10_lies_23 : decode mX10_lies.2.1 23 = .ok (.bipush (-2), 2) := by decide +kernel
theorem dX10_lies_25 : decode mX10_lies.2.1 25 = .ok (.ireturn, 1) := by decide +kernel
theorem bX10_lies_0 {E : px_E} {d : Nat} {w : pw_W} {Q : Option Value → pw_W → Prop} {t : ct_T} (hw : w.1 = cs t) {x1 : Int32}  
    (k1 : ¬ (pX10_isIn x1 0 ((pw_I w 61 68) - 1)) → px_W E mX10_lies (d + 2) 0 0 25 [.null, .null] [.int (-2)] w Q)
    (k2 : (pX10_isIn x1 0 ((pw_I w 61 68) - 1)) → px_W E mX10_lies (d + 2) 0 0 14 [.ref 61, .int x1] [] w Q) :
    px_W E mX10_lies (d + 2) 0 0 0 [.ref 61, .int x1] [] w Q := by
  refine px_iload_n dX10_lies_0 rfl rfl ?_
  refine px_iconst dX10_lies_1 ic_0 ?_
  refine px_aload_n dX10_lies_2 rfl rfl ?_
  refine px_getI dX10_lies_3 fr_10_437 rfl (px_sh1 hw sh_61) ?_
  refine px_iconst dX10_lies_6 ic_1 ?_
  refine px_isub dX10_lies_7 ?_
  refine px_callS (As := [.int x1, .int 0, .int ((pw_I w 61 68) - 1)]) (st := []) (rc := 0) (rs := 0) (mc := 0) (ms := 0) dX10_lies_8 lk_10_440 rfl rfl (Nat.le_of_ble_eq_true rfl) (sX10_isIn ?_)
  show px_W E mX10_lies (d + 2) 0 0 11 [.ref 61, .int x1] [.int (jb (pX10_isIn x1 0 ((pw_I w 61 68) - 1)))] w Q
  refine px_jb_eq (tgt := 23) dX10_lies_11 (by decide) (fun h1 => ?_) (fun h1 => ?_)
  ·
    refine px_bipush dX10_lies_23 bp_m2 ?_
    exact px_forget (k1 h1) ⟨Or.inl rfl, Or.inl rfl, trivial⟩
  ·
    exact (k2 h1)
theorem eX10_lies {E : px_E} {d : Nat} {w : pw_W} {Q : Option Value → pw_W → Prop} {t : ct_T} (hw : w.1 = cs t) {x1 : Int32}  
    (k1 : ¬ (pX10_isIn x1 0 ((pw_I w 61 68) - 1)) → px_W E mX10_lies (d + 2) 0 0 25 [.null, .null] [.int (-2)] w Q)
    (k2 : (pX10_isIn x1 0 ((pw_I w 61 68) - 1)) → px_W E mX10_lies (d + 2) 0 0 14 [.ref 61, .int x1] [] w Q) :
    px_Call E (d + 2) 0 0 mX10_lies [.ref 61, .int x1] w Q :=
  px_enter (k := 0) (by decide) (Nat.le_of_ble_eq_true rfl) rfl (px_forget (bX10_lies_0 hw k1 k2) ⟨Or.inr rfl, Or.inr rfl, trivial⟩)
theorem bX10_lies_14 {E : px_E} {d : Nat} {w : pw_W} {Q : Option Value → pw_W → Prop} {t : ct_T} (hw : w.1 = cs t) {x1 : Int32}  (j1 : Nat) (hj1 : x1 = nI j1) (hl1 : j1 < 6)
    (k1 : px_W E mX10_lies (d + 2) 0 0 25 [.null, .null] [.int (pw_I w 92 j1)] w Q) :
    px_W E mX10_lies (d + 2) 0 0 14 [.ref 61, .int x1] [] w Q := by
  refine px_aload_n dX10_lies_14 rfl rfl ?_
  refine px_getR (v := 92) dX10_lies_15 fr_10_108 rfl (px_sh1 hw sh_61) (px_rf hw rf_61_65) (by decide) ?_
  refine px_iload_n dX10_lies_18 rfl rfl ?_
  refine px_iald dX10_lies_19 (px_sh2 hw sh_92) (by decide) j1 hj1 hl1 ?_
  refine px_goto (tgt := 25) dX10_lies_20 (by decide) ?_
  exact px_forget k1 ⟨Or.inl rfl, Or.inl rfl, trivial⟩
theorem bX10_lies_25 {E : px_E} {d : Nat} {w : pw_W} {Q : Option Value → pw_W → Prop} {t : ct_T} (hw : w.1 = cs t) {y0 : Int32}  
    (k1 : Q (some (.int y0)) w) :
    px_W E mX10_lies (d + 2) 0 0 25 [.null, .null] [.int y0] w Q := by
  exact px_ireturn dX10_lies_25 rfl rfl k1
theorem dX10_seen_0 : decode mX10_seen.2.1 0 = .ok (.iload_n 1, 1) := by decide +kernel
theorem dX10_seen_1 : decode mX10_seen.2.1 1 = .ok (.iconst 0, 1) := by decide +kernel
theorem dX10_seen_2 : decode mX10_seen.2.1 2 = .ok (.bipush 14, 2) := by decide +kernel
theorem dX10_seen_4 : decode mX10_seen.2.1 4 = .ok (.invokestatic 440, 3) := by decide +kernel
theorem dX10_seen_7 : decode mX10_seen.2.1 7 = .ok (.ifCond .eq 30, 3) := by decide +kernel
theorem dX10_seen_10 : decode mX10_seen.2.1 10 = .ok (.aload_n 0, 1) := by decide +kernel
theorem dX10_seen_11 : decode mX10_seen.2.1 11 = .ok (.iload_n 2, 1) := by decide +kernel
theorem dX10_seen_12 : decode mX10_seen.2.1 12 = .ok (.invokevirtual 477, 3) := by decide +kernel
theorem dX10_seen_15 : decode mX10_seen.2.1 15 = .ok (.ifCond .eq 22, 3) := by decide +kernel
theorem dX10_seen_18 : decode mX10_seen.2.1 18 = .ok (.iload_n 3, 1) := by decide +kernel
theorem dX10_seen_19 : decode mX10_seen.2.1 19 = .ok (.iconst 0, 1) := by decide +kernel
theorem dX10_seen_20 : decode mX10_seen.2.1 20 = .ok (.bipush 99, 2) := by decide +kernel
theorem dX10_seen_22 : decode mX10_seen.2.1 22 = .ok (.invokestatic 440, 3) := by decide +kernel
theorem dX10_seen_25 : decode mX10_seen.2.1 25 = .ok (.ifCond .eq 12, 3) := by decide +kernel
theorem dX10_seen_28 : decode mX10_seen.2.1 28 = .ok (.aload_n 0, 1) := by decide +kernel
theorem dX10_seen_29 : decode mX10_seen.2.1 29 = .ok (.getfield 434, 3) := by decide +kernel
theorem dX10_seen_32 : decode mX10_seen.2.1 32 = .ok (.bipush 30, 2) := by decide +kernel
theorem dX10_seen_34 : decode mX10_seen.2.1 34 = .ok (.if_icmp .ne 5, 3) := by decide +kernel
theorem dX10_seen_37 : decode mX10_seen.2.1 37 = .ok (.iconst (-1), 1) := by decide +kernel
theorem dX10_seen_38 : decode mX10_seen.2.1 38 = .ok (.ireturn, 1) := by decide +kernel
theorem dX10_seen_39 : decode mX10_seen.2.1 39 = .ok (.aload_n 0, 1) := by decide +kernel
theorem dX10_seen_40 : decode mX10_seen.2.1 40 = .ok (.getfield 123, 3) := by decide +kernel
theorem dX10_seen_43 : decode mX10_seen.2.1 43 = .ok (.aload_n 0, 1) := by decide +kernel
theorem dX10_seen_44 : decode mX10_seen.2.1 44 = .ok (.getfield 434, 3) := by decide +kernel
theorem dX10_seen_47 : decode mX10_seen.2.1 47 = .ok (.iload_n 1, 1) := by decide +kernel
theorem dX10_seen_48 : decode mX10_seen.2.1 48 = .ok (.iastore, 1) := by decide +kernel
theorem dX10_seen_49 : decode mX10_seen.2.1 49 = .ok (.aload_n 0, 1) := by decide +kernel
theorem dX10_seen_50 : decode mX10_seen.2.1 50 = .ok (.getfield 126, 3) := by decide +kernel
theorem dX10_seen_53 : decode mX10_seen.2.1 53 = .ok (.aload_n 0, 1) := by decide +kernel
theorem dX10_seen_54 : decode mX10_seen.2.1 54 = .ok (.getfield 434, 3) := by decide +kernel
theorem dX10_seen_57 : decode mX10_seen.2.1 57 = .ok (.iload_n 2, 1) := by decide +kernel
theorem dX10_seen_58 : decode mX10_seen.2.1 58 = .ok (.iastore, 1) := by decide +kernel
theorem dX10_seen_59 : decode mX10_seen.2.1 59 = .ok (.aload_n 0, 1) := by decide +kernel
theorem dX10_seen_60 : decode mX10_seen.2.1 60 = .ok (.getfield 129, 3) := by decide +kernel
theorem dX10_seen_63 : decode mX10_seen.2.1 63 = .ok (.aload_n 0, 1) := by decide +kernel
theorem dX10_seen_64 : decode mX10_seen.2.1 64 = .ok (.getfield 434, 3) := by decide +kernel
theorem dX10_seen_67 : decode mX10_seen.2.1 67 = .ok (.iload_n 3, 1) := by decide +kernel
theorem dX10_seen_68 : decode mX10_seen.2.1 68 = .ok (.iastore, 1) := by decide +kernel
theorem dX10_seen_69 : decode mX10_seen.2.1 69 = .ok (.aload_n 0, 1) := by decide +kernel
theorem dX10_seen_70 : decode mX10_seen.2.1 70 = .ok (.getfield 138, 3) := by decide +kernel
theorem dX10_seen_73 : decode mX10_seen.2.1 73 = .ok (.aload_n 0, 1) := by decide +kernel
theorem dX10_seen_74 : decode mX10_seen.2.1 74 = .ok (.getfield 434, 3) := by decide +kernel
theorem dX10_seen_77 : decode mX10_seen.2.1 77 = .ok (.iload 4, 2) := by decide +kernel
theorem dX10_seen_79 : decode mX10_seen.2.1 79 = .ok (.bastore, 1) := by decide +kernel
theorem dX10_seen_80 : decode mX10_seen.2.1 80 = .ok (.aload_n 0, 1) := by decide +kernel
theorem dX10_seen_81 : decode mX10_seen.2.1 81 = .ok (.getfield 132, 3) := by decide +kernel
theorem dX10_seen_84 : decode mX10_seen.2.1 84 = .ok (.aload_n 0, 1) := by decide +kernel
theorem dX10_seen_85 : decode mX10_seen.2.1 85 = .ok (.getfield 434, 3) := by decide +kernel
theorem dX10_seen_88 : decode mX10_seen.2.1 88 = .ok (.aload_n 0, 1) := by decide +kernel
theorem dX10_seen_89 : decode mX10_seen.2.1 89 = .ok (.getfield 551, 3) := by decide +kernel
theorem dX10_seen_92 : decode mX10_seen.2.1 92 = .ok (.iastore, 1) := by decide +kernel
theorem dX10_seen_93 : decode mX10_seen.2.1 93 = .ok (.aload_n 0, 1) := by decide +kernel
theorem dX10_seen_94 : decode mX10_seen.2.1 94 = .ok (.getfield 135, 3) := by decide +kernel
theorem dX10_seen_97 : decode mX10_seen.2.1 97 = .ok (.aload_n 0, 1) := by decide +kernel
theorem dX10_seen_98 : decode mX10_seen.2.1 98 = .ok (.getfield 434, 3) := by decide +kernel
theorem dX10_seen_101 : decode mX10_seen.2.1 101 = .ok (.iconst (-1), 1) := by decide +kernel
theorem dX10_seen_102 : decode mX10_seen.2.1 102 = .ok (.iastore, 1) := by decide +kernel
theorem dX10_seen_103 : decode mX10_seen.2.1 103 = .ok (.aload_n 0, 1) := by decide +kernel
theorem dX10_seen_104 : decode mX10_seen.2.1 104 = .ok (.dup, 1) := by decide +kernel
theorem dX10_seen_105 : decode mX10_seen.2.1 105 = .ok (.getfield 434, 3) := by decide +kernel
theorem dX10_seen_108 : decode mX10_seen.2.1 108 = .ok (.iconst 1, 1) := by decide +kernel
theorem dX10_seen_109 : decode mX10_seen.2.1 109 = .ok (.iadd, 1) := by decide +kernel
theorem dX10_seen_110 : decode mX10_seen.2.1 110 = .ok (.putfield 434, 3) := by decide +kernel
theorem dX10_seen_113 : decode mX10_seen.2.1 113 = .ok (.aload_n 0, 1) := by decide +kernel
theorem dX10_seen_114 : decode mX10_seen.2.1 114 = .ok (.getfield 434, 3) := by decide +kernel
theorem dX10_seen_117 : decode mX10_seen.2.1 117 = .ok (.iconst 1, 1) := by decide +kernel
theorem dX10_seen_118 : decode mX10_seen.2.1 118 = .ok (.isub, 1) := by decide +kernel
theorem dX10_seen_119 : decode mX10_seen.2.1 119 = .ok (.ireturn, 1) := by decide +kernel
theorem bX10_seen_0 {E : px_E} {d : Nat} {w : pw_W} {Q : Option Value → pw_W → Prop} {t : ct_T} (hw : w.1 = cs t) {x1 x2 x3 x4 : Int32}  
    (k1 : ¬ (pX10_isIn x1 0 14) → px_W E mX10_seen (d + 3) 0 0 37 [.null, .null, .null, .null, .null] [] w Q)
    (k2 : (pX10_isIn x1 0 14) → ¬ (pX10_isPerson w x2) → px_W E mX10_seen (d + 3) 0 0 37 [.null, .null, .null, .null, .null] [] w Q)
    (k3 : (pX10_isIn x1 0 14) → (pX10_isPerson w x2) → ¬ (pX10_isIn x3 0 99) → px_W E mX10_seen (d + 3) 0 0 37 [.null, .null, .null, .null, .null] [] w Q)
    (k4 : (pX10_isIn x1 0 14) → (pX10_isPerson w x2) → (pX10_isIn x3 0 99) → ¬ (pw_I w 61 78) = 30 → px_W E mX10_seen (d + 3) 0 0 39 [.ref 61, .int x1, .int x2, .int x3, .int x4] [] w Q)
    (k5 : (pX10_isIn x1 0 14) → (pX10_isPerson w x2) → (pX10_isIn x3 0 99) → (pw_I w 61 78) = 30 → px_W E mX10_seen (d + 3) 0 0 37 [.null, .null, .null, .null, .null] [] w Q) :
    px_W E mX10_seen (d + 3) 0 0 0 [.ref 61, .int x1, .int x2, .int x3, .int x4] [] w Q := by
  refine px_iload_n dX10_seen_0 rfl rfl ?_
  refine px_iconst dX10_seen_1 ic_0 ?_
  refine px_bipush dX10_seen_2 bp_14 ?_
  refine px_callS (As := [.int x1, .int 0, .int 14]) (st := []) (rc := 0) (rs := 0) (mc := 0) (ms := 0) dX10_seen_4 lk_10_440 rfl rfl (Nat.le_of_ble_eq_true rfl) (sX10_isIn ?_)
  show px_W E mX10_seen (d + 3) 0 0 7 [.ref 61, .int x1, .int x2, .int x3, .int x4] [.int (jb (pX10_isIn x1 0 14))] w Q
  refine px_jb_eq (tgt := 37) dX10_seen_7 (by decide) (fun h1 => ?_) (fun h1 => ?_)
  ·
    exact px_forget (k1 h1) ⟨Or.inl rfl, Or.inl rfl, Or.inl rfl, Or.inl rfl, Or.inl rfl, trivial⟩
  ·
    refine px_aload_n dX10_seen_10 rfl rfl ?_
    refine px_iload_n dX10_seen_11 rfl rfl ?_
    refine px_callV (As := [.int x2]) (st := []) (rc := 0) (rs := 0) (mc := 0) (ms := 0) dX10_seen_12 lk_10_477 (px_sh1 hw sh_61) rfl rfl (Nat.le_of_ble_eq_true rfl) (sX10_isPerson (w := w) hw ?_)
    show px_W E mX10_seen (d + 3) 0 0 15 [.ref 61, .int x1, .int x2, .int x3, .int x4] [.int (jb (pX10_isPerson w x2))] w Q
    refine px_jb_eq (tgt := 37) dX10_seen_15 (by decide) (fun h2 => ?_) (fun h2 => ?_)
    ·
      exact px_forget (k2 h1 h2) ⟨Or.inl rfl, Or.inl rfl, Or.inl rfl, Or.inl rfl, Or.inl rfl, trivial⟩
    ·
      refine px_iload_n dX10_seen_18 rfl rfl ?_
      refine px_iconst dX10_seen_19 ic_0 ?_
      refine px_bipush dX10_seen_20 bp_99 ?_
      refine px_callS (As := [.int x3, .int 0, .int 99]) (st := []) (rc := 0) (rs := 0) (mc := 0) (ms := 0) dX10_seen_22 lk_10_440 rfl rfl (Nat.le_of_ble_eq_true rfl) (sX10_isIn ?_)
      show px_W E mX10_seen (d + 3) 0 0 25 [.ref 61, .int x1, .int x2, .int x3, .int x4] [.int (jb (pX10_isIn x3 0 99))] w Q
      refine px_jb_eq (tgt := 37) dX10_seen_25 (by decide) (fun h3 => ?_) (fun h3 => ?_)
      ·
        exact px_forget (k3 h1 h2 h3) ⟨Or.inl rfl, Or.inl rfl, Or.inl rfl, Or.inl rfl, Or.inl rfl, trivial⟩
      ·
        refine px_aload_n dX10_seen_28 rfl rfl ?_
        refine px_getI dX10_seen_29 fr_10_434 rfl (px_sh1 hw sh_61) ?_
        refine px_bipush dX10_seen_32 bp_30 ?_
        refine px_icmp_ne (tgt := 39) dX10_seen_34 (by decide) (fun h4 => ?_) (fun h4 => ?_)
        ·
          exact (k4 h1 h2 h3 h4)
        ·
          exact px_forget (k5 h1 h2 h3 h4) ⟨Or.inl rfl, Or.inl rfl, Or.inl rfl, Or.inl rfl, Or.inl rfl, trivial⟩
theorem eX10_seen {E : px_E} {d : Nat} {w : pw_W} {Q : Option Value → pw_W → Prop} {t : ct_T} (hw : w.1 = cs t) {x1 x2 x3 x4 : Int32}  
    (k1 : ¬ (pX10_isIn x1 0 14) → px_W E mX10_seen (d + 3) 0 0 37 [.null, .null, .null, .null, .null] [] w Q)
    (k2 : (pX10_isIn x1 0 14) → ¬ (pX10_isPerson w x2) → px_W E mX10_seen (d + 3) 0 0 37 [.null, .null, .null, .null, .null] [] w Q)
    (k3 : (pX10_isIn x1 0 14) → (pX10_isPerson w x2) → ¬ (pX10_isIn x3 0 99) → px_W E mX10_seen (d + 3) 0 0 37 [.null, .null, .null, .null, .null] [] w Q)
    (k4 : (pX10_isIn x1 0 14) → (pX10_isPerson w x2) → (pX10_isIn x3 0 99) → ¬ (pw_I w 61 78) = 30 → px_W E mX10_seen (d + 3) 0 0 39 [.ref 61, .int x1, .int x2, .int x3, .int x4] [] w Q)
    (k5 : (pX10_isIn x1 0 14) → (pX10_isPerson w x2) → (pX10_isIn x3 0 99) → (pw_I w 61 78) = 30 → px_W E mX10_seen (d + 3) 0 0 37 [.null, .null, .null, .null, .null] [] w Q) :
    px_Call E (d + 3) 0 0 mX10_seen [.ref 61, .int x1, .int x2, .int x3, .int x4] w Q :=
  px_enter (k := 0) (by decide) (Nat.le_of_ble_eq_true rfl) rfl (px_forget (bX10_seen_0 hw k1 k2 k3 k4 k5) ⟨Or.inr rfl, Or.inr rfl, Or.inr rfl, Or.inr rfl, Or.inr rfl, trivial⟩)
theorem bX10_seen_37 {E : px_E} {d : Nat} {w : pw_W} {Q : Option Value → pw_W → Prop} {t : ct_T} (hw : w.1 = cs t)  
    (k1 : Q (some (.int (-1))) w) :
    px_W E mX10_seen (d + 3) 0 0 37 [.null, .null, .null, .null, .null] [] w Q := by
  refine px_iconst dX10_seen_37 ic_m1 ?_
  exact px_ireturn dX10_seen_38 rfl rfl k1
theorem bX10_seen_39 {E : px_E} {d : Nat} {w : pw_W} {Q : Option Value → pw_W → Prop} {t : ct_T} (hw : w.1 = cs t) {x1 x2 x3 x4 : Int32}  (j1 : Nat) (hj1 : (pw_I w 61 78) = nI j1) (hl1 : j1 < 30) (hb2 : x4 = 0 ∨ x4 = 1)
    (k1 : Q (some (.int (((pw_I w 61 78) + 1) - 1))) (pw_sI (pw_sI (pw_sI (pw_sI (pw_sI (pw_sI (pw_sI w 97 j1 x1) 98 j1 x2) 99 j1 x3) 102 j1 x4) 100 j1 (pw_I w 61 79)) 101 j1 (-1)) 61 78 ((pw_I w 61 78) + 1))) :
    px_W E mX10_seen (d + 3) 0 0 39 [.ref 61, .int x1, .int x2, .int x3, .int x4] [] w Q := by
  refine px_aload_n dX10_seen_39 rfl rfl ?_
  refine px_getR (v := 97) dX10_seen_40 fr_10_123 rfl (px_sh1 hw sh_61) (px_rf hw rf_61_72) (by decide) ?_
  refine px_aload_n dX10_seen_43 rfl rfl ?_
  refine px_getI dX10_seen_44 fr_10_434 rfl (px_sh1 hw sh_61) ?_
  refine px_iload_n dX10_seen_47 rfl rfl ?_
  refine px_iast dX10_seen_48 (px_sh2 hw sh_97) (by decide) j1 hj1 hl1 (by omega) ?_
  refine px_aload_n dX10_seen_49 rfl rfl ?_
  refine px_getR (v := 98) dX10_seen_50 fr_10_126 rfl (px_sh1 (hI hw) sh_61) (px_rf (hI hw) rf_61_73) (by decide) ?_
  refine px_aload_n dX10_seen_53 rfl rfl ?_
  refine px_getIv (v := (pw_I w 61 78)) dX10_seen_54 fr_10_434 rfl (px_sh1 (hI hw) sh_61) rfl ?_
  refine px_iload_n dX10_seen_57 rfl rfl ?_
  refine px_iast dX10_seen_58 (px_sh2 (hI hw) sh_98) (by decide) j1 hj1 hl1 (by omega) ?_
  refine px_aload_n dX10_seen_59 rfl rfl ?_
  refine px_getR (v := 99) dX10_seen_60 fr_10_129 rfl (px_sh1 (hI (hI hw)) sh_61) (px_rf (hI (hI hw)) rf_61_74) (by decide) ?_
  refine px_aload_n dX10_seen_63 rfl rfl ?_
  refine px_getIv (v := (pw_I w 61 78)) dX10_seen_64 fr_10_434 rfl (px_sh1 (hI (hI hw)) sh_61) rfl ?_
  refine px_iload_n dX10_seen_67 rfl rfl ?_
  refine px_iast dX10_seen_68 (px_sh2 (hI (hI hw)) sh_99) (by decide) j1 hj1 hl1 (by omega) ?_
  refine px_aload_n dX10_seen_69 rfl rfl ?_
  refine px_getR (v := 102) dX10_seen_70 fr_10_138 rfl (px_sh1 (hI (hI (hI hw))) sh_61) (px_rf (hI (hI (hI hw))) rf_61_77) (by decide) ?_
  refine px_aload_n dX10_seen_73 rfl rfl ?_
  refine px_getIv (v := (pw_I w 61 78)) dX10_seen_74 fr_10_434 rfl (px_sh1 (hI (hI (hI hw))) sh_61) rfl ?_
  refine px_iload dX10_seen_77 rfl ?_
  refine px_zast dX10_seen_79 (px_sh2 (hI (hI (hI hw))) sh_102) (by decide) j1 hj1 hl1 (px_zb (hb2)) (by omega) ?_
  refine px_aload_n dX10_seen_80 rfl rfl ?_
  refine px_getR (v := 100) dX10_seen_81 fr_10_132 rfl (px_sh1 (hI (hI (hI (hI hw)))) sh_61) (px_rf (hI (hI (hI (hI hw)))) rf_61_75) (by decide) ?_
  refine px_aload_n dX10_seen_84 rfl rfl ?_
  refine px_getIv (v := (pw_I w 61 78)) dX10_seen_85 fr_10_434 rfl (px_sh1 (hI (hI (hI (hI hw)))) sh_61) rfl ?_
  refine px_aload_n dX10_seen_88 rfl rfl ?_
  refine px_getIv (v := (pw_I w 61 79)) dX10_seen_89 fr_10_551 rfl (px_sh1 (hI (hI (hI (hI hw)))) sh_61) rfl ?_
  refine px_iast dX10_seen_92 (px_sh2 (hI (hI (hI (hI hw)))) sh_100) (by decide) j1 hj1 hl1 (by omega) ?_
  refine px_aload_n dX10_seen_93 rfl rfl ?_
  refine px_getR (v := 101) dX10_seen_94 fr_10_135 rfl (px_sh1 (hI (hI (hI (hI (hI hw))))) sh_61) (px_rf (hI (hI (hI (hI (hI hw))))) rf_61_76) (by decide) ?_
  refine px_aload_n dX10_seen_97 rfl rfl ?_
  refine px_getIv (v := (pw_I w 61 78)) dX10_seen_98 fr_10_434 rfl (px_sh1 (hI (hI (hI (hI (hI hw))))) sh_61) rfl ?_
  refine px_iconst dX10_seen_101 ic_m1 ?_
  refine px_iast dX10_seen_102 (px_sh2 (hI (hI (hI (hI (hI hw))))) sh_101) (by decide) j1 hj1 hl1 (by omega) ?_
  refine px_aload_n dX10_seen_103 rfl rfl ?_
  refine px_dup dX10_seen_104 rfl ?_
  refine px_getIv (v := (pw_I w 61 78)) dX10_seen_105 fr_10_434 rfl (px_sh1 (hI (hI (hI (hI (hI (hI hw)))))) sh_61) rfl ?_
  refine px_iconst dX10_seen_108 ic_1 ?_
  refine px_iadd dX10_seen_109 ?_
  refine px_putI dX10_seen_110 fl_10_434 (Or.inl rfl) rfl (px_sh1 (hI (hI (hI (hI (hI (hI hw)))))) sh_61) rfl rfl (by omega) ?_
  refine px_aload_n dX10_seen_113 rfl rfl ?_
  refine px_getIv (v := ((pw_I w 61 78) + 1)) dX10_seen_114 fr_10_434 rfl (px_sh1 (hI (hI (hI (hI (hI (hI (hI hw))))))) sh_61) rfl ?_
  refine px_iconst dX10_seen_117 ic_1 ?_
  refine px_isub dX10_seen_118 ?_
  exact px_ireturn dX10_seen_119 rfl rfl k1
theorem dX10_untell_0 : decode mX10_untell.2.1 0 = .ok (.iload_n 1, 1) := by decide +kernel
theorem dX10_untell_1 : decode mX10_untell.2.1 1 = .ok (.iconst 0, 1) := by decide +kernel
theorem dX10_untell_2 : decode mX10_untell.2.1 2 = .ok (.aload_n 0, 1) := by decide +kernel
theorem dX10_untell_3 : decode mX10_untell.2.1 3 = .ok (.getfield 434, 3) := by decide +kernel
theorem dX10_untell_6 : decode mX10_untell.2.1 6 = .ok (.iconst 1, 1) := by decide +kernel
theorem dX10_untell_7 : decode mX10_untell.2.1 7 = .ok (.isub, 1) := by decide +kernel
theorem dX10_untell_8 : decode mX10_untell.2.1 8 = .ok (.invokestatic 440, 3) := by decide +kernel
theorem dX10_untell_11 : decode mX10_untell.2.1 11 = .ok (.ifCond .eq 12, 3) := by decide +kernel
theorem dX10_untell_14 : decode mX10_untell.2.1 14 = .ok (.aload_n 0, 1) := by decide +kernel
theorem dX10_untell_15 : decode mX10_untell.2.1 15 = .ok (.getfield 135, 3) := by decide +kernel
theorem dX10_untell_18 : decode mX10_untell.2.1 18 = .ok (.iload_n 1, 1) := by decide +kernel
theorem dX10_untell_19 : decode mX10_untell.2.1 19 = .ok (.iaload, 1) := by decide +kernel
theorem dX10_untell_20 : decode mX10_untell.2.1 20 = .ok (.ifCond .lt 5, 3) := by decide +kernel
theorem dX10_untell_23 : decode mX10_untell.2.1 23 = .ok (.iconst 0, 1) := by decide +kernel
theorem dX10_untell_24 : decode mX10_untell.2.1 24 = .ok (.ireturn, 1) := by decide +kernel
theorem dX10_untell_25 : decode mX10_untell.2.1 25 = .ok (.aload_n 0, 1) := by decide +kernel
theorem dX10_untell_26 : decode mX10_untell.2.1 26 = .ok (.getfield 135, 3) := by decide +kernel
theorem dX10_untell_29 : decode mX10_untell.2.1 29 = .ok (.iload_n 1, 1) := by decide +kernel
theorem dX10_untell_30 : decode mX10_untell.2.1 30 = .ok (.aload_n 0, 1) := by decide +kernel
theorem dX10_untell_31 : decode mX10_untell.2.1 31 = .ok (.getfield 551, 3) := by decide +kernel
theorem dX10_untell_34 : decode mX10_untell.2.1 34 = .ok (.iastore, 1) := by decide +kernel
theorem dX10_untell_35 : decode mX10_untell.2.1 35 = .ok (.iconst 1, 1) := by decide +kernel
theorem dX10_untell_36 : decode mX10_untell.2.1 36 = .ok (.ireturn, 1) := by decide +kernel
theorem bX10_untell_0 {E : px_E} {d : Nat} {w : pw_W} {Q : Option Value → pw_W → Prop} {t : ct_T} (hw : w.1 = cs t) {x1 : Int32}  
    (k1 : ¬ (pX10_isIn x1 0 ((pw_I w 61 78) - 1)) → px_W E mX10_untell (d + 2) 0 0 23 [.null, .null] [] w Q)
    (k2 : (pX10_isIn x1 0 ((pw_I w 61 78) - 1)) → px_W E mX10_untell (d + 2) 0 0 14 [.ref 61, .int x1] [] w Q) :
    px_W E mX10_untell (d + 2) 0 0 0 [.ref 61, .int x1] [] w Q := by
  refine px_iload_n dX10_untell_0 rfl rfl ?_
  refine px_iconst dX10_untell_1 ic_0 ?_
  refine px_aload_n dX10_untell_2 rfl rfl ?_
  refine px_getI dX10_untell_3 fr_10_434 rfl (px_sh1 hw sh_61) ?_
  refine px_iconst dX10_untell_6 ic_1 ?_
  refine px_isub dX10_untell_7 ?_
  refine px_callS (As := [.int x1, .int 0, .int ((pw_I w 61 78) - 1)]) (st := []) (rc := 0) (rs := 0) (mc := 0) (ms := 0) dX10_untell_8 lk_10_440 rfl rfl (Nat.le_of_ble_eq_true rfl) (sX10_isIn ?_)
  show px_W E mX10_untell (d + 2) 0 0 11 [.ref 61, .int x1] [.int (jb (pX10_isIn x1 0 ((pw_I w 61 78) - 1)))] w Q
  refine px_jb_eq (tgt := 23) dX10_untell_11 (by decide) (fun h1 => ?_) (fun h1 => ?_)
  ·
    exact px_forget (k1 h1) ⟨Or.inl rfl, Or.inl rfl, trivial⟩
  ·
    exact (k2 h1)
theorem eX10_untell {E : px_E} {d : Nat} {w : pw_W} {Q : Option Value → pw_W → Prop} {t : ct_T} (hw : w.1 = cs t) {x1 : Int32}  
    (k1 : ¬ (pX10_isIn x1 0 ((pw_I w 61 78) - 1)) → px_W E mX10_untell (d + 2) 0 0 23 [.null, .null] [] w Q)
    (k2 : (pX10_isIn x1 0 ((pw_I w 61 78) - 1)) → px_W E mX10_untell (d + 2) 0 0 14 [.ref 61, .int x1] [] w Q) :
    px_Call E (d + 2) 0 0 mX10_untell [.ref 61, .int x1] w Q :=
  px_enter (k := 0) (by decide) (Nat.le_of_ble_eq_true rfl) rfl (px_forget (bX10_untell_0 hw k1 k2) ⟨Or.inr rfl, Or.inr rfl, trivial⟩)
theorem bX10_untell_14 {E : px_E} {d : Nat} {w : pw_W} {Q : Option Value → pw_W → Prop} {t : ct_T} (hw : w.1 = cs t) {x1 : Int32}  (j1 : Nat) (hj1 : x1 = nI j1) (hl1 : j1 < 30)
    (k1 : (pw_I w 101 j1) < 0 → px_W E mX10_untell (d + 2) 0 0 25 [.ref 61, .int x1] [] w Q)
    (k2 : ¬ (pw_I w 101 j1) < 0 → px_W E mX10_untell (d + 2) 0 0 23 [.null, .null] [] w Q) :
    px_W E mX10_untell (d + 2) 0 0 14 [.ref 61, .int x1] [] w Q := by
  refine px_aload_n dX10_untell_14 rfl rfl ?_
  refine px_getR (v := 101) dX10_untell_15 fr_10_135 rfl (px_sh1 hw sh_61) (px_rf hw rf_61_76) (by decide) ?_
  refine px_iload_n dX10_untell_18 rfl rfl ?_
  refine px_iald dX10_untell_19 (px_sh2 hw sh_101) (by decide) j1 hj1 hl1 ?_
  refine px_if_lt (tgt := 25) dX10_untell_20 (by decide) (fun h1 => ?_) (fun h1 => ?_)
  ·
    exact (k1 h1)
  ·
    exact px_forget (k2 h1) ⟨Or.inl rfl, Or.inl rfl, trivial⟩
theorem bX10_untell_23 {E : px_E} {d : Nat} {w : pw_W} {Q : Option Value → pw_W → Prop} {t : ct_T} (hw : w.1 = cs t)  
    (k1 : Q (some (.int 0)) w) :
    px_W E mX10_untell (d + 2) 0 0 23 [.null, .null] [] w Q := by
  refine px_iconst dX10_untell_23 ic_0 ?_
  exact px_ireturn dX10_untell_24 rfl (by decide) k1
theorem bX10_untell_25 {E : px_E} {d : Nat} {w : pw_W} {Q : Option Value → pw_W → Prop} {t : ct_T} (hw : w.1 = cs t) {x1 : Int32}  (j1 : Nat) (hj1 : x1 = nI j1) (hl1 : j1 < 30)
    (k1 : Q (some (.int 1)) (pw_sI w 101 j1 (pw_I w 61 79))) :
    px_W E mX10_untell (d + 2) 0 0 25 [.ref 61, .int x1] [] w Q := by
  refine px_aload_n dX10_untell_25 rfl rfl ?_
  refine px_getR (v := 101) dX10_untell_26 fr_10_135 rfl (px_sh1 hw sh_61) (px_rf hw rf_61_76) (by decide) ?_
  refine px_iload_n dX10_untell_29 rfl rfl ?_
  refine px_aload_n dX10_untell_30 rfl rfl ?_
  refine px_getI dX10_untell_31 fr_10_551 rfl (px_sh1 hw sh_61) ?_
  refine px_iast dX10_untell_34 (px_sh2 hw sh_101) (by decide) j1 hj1 hl1 (by omega) ?_
  refine px_iconst dX10_untell_35 ic_1 ?_
  exact px_ireturn dX10_untell_36 rfl (by decide) k1
theorem dX10_later_0 : decode mX10_later.2.1 0 = .ok (.iload_n 1, 1) := by decide +kernel
theorem dX10_later_1 : decode mX10_later.2.1 1 = .ok (.ifCond .lt 22, 3) := by decide +kernel
theorem dX10_later_4 : decode mX10_later.2.1 4 = .ok (.iload_n 1, 1) := by decide +kernel
theorem dX10_later_5 : decode mX10_later.2.1 5 = .ok (.sipush 1000, 3) := by decide +kernel
theorem dX10_later_8 : decode mX10_later.2.1 8 = .ok (.if_icmp .gt 15, 3) := by decide +kernel
theorem dX10_later_11 : decode mX10_later.2.1 11 = .ok (.aload_n 0, 1) := by decide +kernel
theorem dX10_later_12 : decode mX10_later.2.1 12 = .ok (.getfield 551, 3) := by decide +kernel
theorem dX10_later_15 : decode mX10_later.2.1 15 = .ok (.iload_n 1, 1) := by decide +kernel
theorem dX10_later_16 : decode mX10_later.2.1 16 = .ok (.iadd, 1) := by decide +kernel
theorem dX10_later_17 : decode mX10_later.2.1 17 = .ok (.ldc_w 554, 3) := by decide +kernel
theorem dX10_later_20 : decode mX10_later.2.1 20 = .ok (.if_icmp .le 5, 3) := by decide +kernel
theorem dX10_later_23 : decode mX10_later.2.1 23 = .ok (.iconst (-1), 1) := by decide +kernel
theorem dX10_later_24 : decode mX10_later.2.1 24 = .ok (.ireturn, 1) := by decide +kernel
theorem dX10_later_25 : decode mX10_later.2.1 25 = .ok (.aload_n 0, 1) := by decide +kernel
theorem dX10_later_26 : decode mX10_later.2.1 26 = .ok (.dup, 1) := by decide +kernel
theorem dX10_later_27 : decode mX10_later.2.1 27 = .ok (.getfield 551, 3) := by decide +kernel
theorem dX10_later_30 : decode mX10_later.2.1 30 = .ok (.iload_n 1, 1) := by decide +kernel
theorem dX10_later_31 : decode mX10_later.2.1 31 = .ok (.iadd, 1) := by decide +kernel
theorem dX10_later_32 : decode mX10_later.2.1 32 = .ok (.putfield 551, 3) := by decide +kernel
theorem dX10_later_35 : decode mX10_later.2.1 35 = .ok (.aload_n 0, 1) := by decide +kernel
theorem dX10_later_36 : decode mX10_later.2.1 36 = .ok (.getfield 551, 3) := by decide +kernel
theorem dX10_later_39 : decode mX10_later.2.1 39 = .ok (.ireturn, 1) := by decide +kernel
theorem bX10_later_0 {E : px_E} {d : Nat} {w : pw_W} {Q : Option Value → pw_W → Prop} {t : ct_T} (hw : w.1 = cs t) {x1 : Int32}  
    (k1 : x1 < 0 → px_W E mX10_later (d + 1) 0 0 23 [.null, .null] [] w Q)
    (k2 : ¬ x1 < 0 → 1000 < x1 → px_W E mX10_later (d + 1) 0 0 23 [.null, .null] [] w Q)
    (k3 : ¬ x1 < 0 → ¬ 1000 < x1 → ((pw_I w 61 79) + x1) ≤ 100000 → Q (some (.int ((pw_I w 61 79) + x1))) (pw_sI w 61 79 ((pw_I w 61 79) + x1)))
    (k4 : ¬ x1 < 0 → ¬ 1000 < x1 → ¬ ((pw_I w 61 79) + x1) ≤ 100000 → px_W E mX10_later (d + 1) 0 0 23 [.null, .null] [] w Q) :
    px_W E mX10_later (d + 1) 0 0 0 [.ref 61, .int x1] [] w Q := by
  refine px_iload_n dX10_later_0 rfl rfl ?_
  refine px_if_lt (tgt := 23) dX10_later_1 (by decide) (fun h1 => ?_) (fun h1 => ?_)
  ·
    exact px_forget (k1 h1) ⟨Or.inl rfl, Or.inl rfl, trivial⟩
  ·
    refine px_iload_n dX10_later_4 rfl rfl ?_
    refine px_sipush dX10_later_5 sp_1000 ?_
    refine px_icmp_gt (tgt := 23) dX10_later_8 (by decide) (fun h2 => ?_) (fun h2 => ?_)
    ·
      exact px_forget (k2 h1 h2) ⟨Or.inl rfl, Or.inl rfl, trivial⟩
    ·
      refine px_aload_n dX10_later_11 rfl rfl ?_
      refine px_getI dX10_later_12 fr_10_551 rfl (px_sh1 hw sh_61) ?_
      refine px_iload_n dX10_later_15 rfl rfl ?_
      refine px_iadd dX10_later_16 ?_
      refine px_ldcw dX10_later_17 (px_in8 232 rfl rfl) ?_
      refine px_icmp_le (tgt := 25) dX10_later_20 (by decide) (fun h3 => ?_) (fun h3 => ?_)
      ·
        refine px_aload_n dX10_later_25 rfl rfl ?_
        refine px_dup dX10_later_26 rfl ?_
        refine px_getI dX10_later_27 fr_10_551 rfl (px_sh1 hw sh_61) ?_
        refine px_iload_n dX10_later_30 rfl rfl ?_
        refine px_iadd dX10_later_31 ?_
        refine px_putI dX10_later_32 fl_10_551 (Or.inl rfl) rfl (px_sh1 hw sh_61) rfl rfl (by omega) ?_
        refine px_aload_n dX10_later_35 rfl rfl ?_
        refine px_getIv (v := ((pw_I w 61 79) + x1)) dX10_later_36 fr_10_551 rfl (px_sh1 (hI hw) sh_61) rfl ?_
        exact px_ireturn dX10_later_39 rfl rfl (k3 h1 h2 h3)
      ·
        exact px_forget (k4 h1 h2 h3) ⟨Or.inl rfl, Or.inl rfl, trivial⟩
theorem eX10_later {E : px_E} {d : Nat} {w : pw_W} {Q : Option Value → pw_W → Prop} {t : ct_T} (hw : w.1 = cs t) {x1 : Int32}  
    (k1 : x1 < 0 → px_W E mX10_later (d + 1) 0 0 23 [.null, .null] [] w Q)
    (k2 : ¬ x1 < 0 → 1000 < x1 → px_W E mX10_later (d + 1) 0 0 23 [.null, .null] [] w Q)
    (k3 : ¬ x1 < 0 → ¬ 1000 < x1 → ((pw_I w 61 79) + x1) ≤ 100000 → Q (some (.int ((pw_I w 61 79) + x1))) (pw_sI w 61 79 ((pw_I w 61 79) + x1)))
    (k4 : ¬ x1 < 0 → ¬ 1000 < x1 → ¬ ((pw_I w 61 79) + x1) ≤ 100000 → px_W E mX10_later (d + 1) 0 0 23 [.null, .null] [] w Q) :
    px_Call E (d + 1) 0 0 mX10_later [.ref 61, .int x1] w Q :=
  px_enter (k := 0) (by decide) (Nat.le_of_ble_eq_true rfl) rfl (px_forget (bX10_later_0 hw k1 k2 k3 k4) ⟨Or.inr rfl, Or.inr rfl, trivial⟩)
theorem bX10_later_23 {E : px_E} {d : Nat} {w : pw_W} {Q : Option Value → pw_W → Prop} {t : ct_T} (hw : w.1 = cs t)  
    (k1 : Q (some (.int (-1))) w) :
    px_W E mX10_later (d + 1) 0 0 23 [.null, .null] [] w Q := by
  refine px_iconst dX10_later_23 ic_m1 ?_
  exact px_ireturn dX10_later_24 rfl rfl k1
theorem dX10_fitsFirm_0 : decode mX10_fitsFirm.2.1 0 = .ok (.iconst 1, 1) := by decide +kernel
theorem dX10_fitsFirm_1 : decode mX10_fitsFirm.2.1 1 = .ok (.istore_n 3, 1) := by decide +kernel
theorem dX10_fitsFirm_2 : decode mX10_fitsFirm.2.1 2 = .ok (.iconst 0, 1) := by decide +kernel
theorem dX10_fitsFirm_3 : decode mX10_fitsFirm.2.1 3 = .ok (.istore 4, 2) := by decide +kernel
theorem dX10_fitsFirm_5 : decode mX10_fitsFirm.2.1 5 = .ok (.iload 4, 2) := by decide +kernel
theorem dX10_fitsFirm_7 : decode mX10_fitsFirm.2.1 7 = .ok (.aload_n 0, 1) := by decide +kernel
theorem dX10_fitsFirm_8 : decode mX10_fitsFirm.2.1 8 = .ok (.getfield 434, 3) := by decide +kernel
theorem dX10_fitsFirm_11 : decode mX10_fitsFirm.2.1 11 = .ok (.if_icmp .ge 107, 3) := by decide +kernel
theorem dX10_fitsFirm_14 : decode mX10_fitsFirm.2.1 14 = .ok (.iload_n 3, 1) := by decide +kernel
theorem dX10_fitsFirm_15 : decode mX10_fitsFirm.2.1 15 = .ok (.ifCond .eq 103, 3) := by decide +kernel
theorem dX10_fitsFirm_18 : decode mX10_fitsFirm.2.1 18 = .ok (.aload_n 0, 1) := by decide +kernel
theorem dX10_fitsFirm_19 : decode mX10_fitsFirm.2.1 19 = .ok (.getfield 132, 3) := by decide +kernel
theorem dX10_fitsFirm_22 : decode mX10_fitsFirm.2.1 22 = .ok (.iload 4, 2) := by decide +kernel
theorem dX10_fitsFirm_24 : decode mX10_fitsFirm.2.1 24 = .ok (.iaload, 1) := by decide +kernel
theorem dX10_fitsFirm_25 : decode mX10_fitsFirm.2.1 25 = .ok (.iload_n 2, 1) := by decide +kernel
theorem dX10_fitsFirm_26 : decode mX10_fitsFirm.2.1 26 = .ok (.if_icmp .gt 86, 3) := by decide +kernel
theorem dX10_fitsFirm_29 : decode mX10_fitsFirm.2.1 29 = .ok (.aload_n 0, 1) := by decide +kernel
theorem dX10_fitsFirm_30 : decode mX10_fitsFirm.2.1 30 = .ok (.getfield 135, 3) := by decide +kernel
theorem dX10_fitsFirm_33 : decode mX10_fitsFirm.2.1 33 = .ok (.iload 4, 2) := by decide +kernel
theorem dX10_fitsFirm_35 : decode mX10_fitsFirm.2.1 35 = .ok (.iaload, 1) := by decide +kernel
theorem dX10_fitsFirm_36 : decode mX10_fitsFirm.2.1 36 = .ok (.ifCond .lt 17, 3) := by decide +kernel
theorem dX10_fitsFirm_39 : decode mX10_fitsFirm.2.1 39 = .ok (.aload_n 0, 1) := by decide +kernel
theorem dX10_fitsFirm_40 : decode mX10_fitsFirm.2.1 40 = .ok (.getfield 135, 3) := by decide +kernel
theorem dX10_fitsFirm_43 : decode mX10_fitsFirm.2.1 43 = .ok (.iload 4, 2) := by decide +kernel
theorem dX10_fitsFirm_45 : decode mX10_fitsFirm.2.1 45 = .ok (.iaload, 1) := by decide +kernel
theorem dX10_fitsFirm_46 : decode mX10_fitsFirm.2.1 46 = .ok (.iload_n 2, 1) := by decide +kernel
theorem dX10_fitsFirm_47 : decode mX10_fitsFirm.2.1 47 = .ok (.if_icmp .gt 6, 3) := by decide +kernel
theorem dX10_fitsFirm_50 : decode mX10_fitsFirm.2.1 50 = .ok (.goto 62, 3) := by decide +kernel
theorem dX10_fitsFirm_53 : decode mX10_fitsFirm.2.1 53 = .ok (.aload_n 0, 1) := by decide +kernel
theorem dX10_fitsFirm_54 : decode mX10_fitsFirm.2.1 54 = .ok (.getfield 142, 3) := by decide +kernel
theorem dX10_fitsFirm_57 : decode mX10_fitsFirm.2.1 57 = .ok (.bipush 90, 2) := by decide +kernel
theorem dX10_fitsFirm_59 : decode mX10_fitsFirm.2.1 59 = .ok (.iload_n 1, 1) := by decide +kernel
theorem dX10_fitsFirm_60 : decode mX10_fitsFirm.2.1 60 = .ok (.imul, 1) := by decide +kernel
theorem dX10_fitsFirm_61 : decode mX10_fitsFirm.2.1 61 = .ok (.bipush 6, 2) := by decide +kernel
theorem dX10_fitsFirm_63 : decode mX10_fitsFirm.2.1 63 = .ok (.aload_n 0, 1) := by decide +kernel
theorem dX10_fitsFirm_64 : decode mX10_fitsFirm.2.1 64 = .ok (.getfield 123, 3) := by decide +kernel
theorem dX10_fitsFirm_67 : decode mX10_fitsFirm.2.1 67 = .ok (.iload 4, 2) := by decide +kernel
theorem dX10_fitsFirm_69 : decode mX10_fitsFirm.2.1 69 = .ok (.iaload, 1) := by decide +kernel
theorem dX10_fitsFirm_70 : decode mX10_fitsFirm.2.1 70 = .ok (.imul, 1) := by decide +kernel
theorem dX10_fitsFirm_71 : decode mX10_fitsFirm.2.1 71 = .ok (.iadd, 1) := by decide +kernel
theorem dX10_fitsFirm_72 : decode mX10_fitsFirm.2.1 72 = .ok (.aload_n 0, 1) := by decide +kernel
theorem dX10_fitsFirm_73 : decode mX10_fitsFirm.2.1 73 = .ok (.getfield 126, 3) := by decide +kernel
theorem dX10_fitsFirm_76 : decode mX10_fitsFirm.2.1 76 = .ok (.iload 4, 2) := by decide +kernel
theorem dX10_fitsFirm_78 : decode mX10_fitsFirm.2.1 78 = .ok (.iaload, 1) := by decide +kernel
theorem dX10_fitsFirm_79 : decode mX10_fitsFirm.2.1 79 = .ok (.iadd, 1) := by decide +kernel
theorem dX10_fitsFirm_80 : decode mX10_fitsFirm.2.1 80 = .ok (.iaload, 1) := by decide +kernel
theorem dX10_fitsFirm_81 : decode mX10_fitsFirm.2.1 81 = .ok (.aload_n 0, 1) := by decide +kernel
theorem dX10_fitsFirm_82 : decode mX10_fitsFirm.2.1 82 = .ok (.getfield 129, 3) := by decide +kernel
theorem dX10_fitsFirm_85 : decode mX10_fitsFirm.2.1 85 = .ok (.iload 4, 2) := by decide +kernel
theorem dX10_fitsFirm_87 : decode mX10_fitsFirm.2.1 87 = .ok (.iaload, 1) := by decide +kernel
theorem dX10_fitsFirm_88 : decode mX10_fitsFirm.2.1 88 = .ok (.if_icmp .lt 7, 3) := by decide +kernel
theorem dX10_fitsFirm_91 : decode mX10_fitsFirm.2.1 91 = .ok (.iconst 1, 1) := by decide +kernel
theorem dX10_fitsFirm_92 : decode mX10_fitsFirm.2.1 92 = .ok (.goto 4, 3) := by decide +kernel
theorem dX10_fitsFirm_95 : decode mX10_fitsFirm.2.1 95 = .ok (.iconst 0, 1) := by decide +kernel
theorem dX10_fitsFirm_96 : decode mX10_fitsFirm.2.1 96 = .ok (.aload_n 0, 1) := by decide +kernel
theorem dX10_fitsFirm_97 : decode mX10_fitsFirm.2.1 97 = .ok (.getfield 138, 3) := by decide +kernel
theorem dX10_fitsFirm_100 : decode mX10_fitsFirm.2.1 100 = .ok (.iload 4, 2) := by decide +kernel
theorem dX10_fitsFirm_102 : decode mX10_fitsFirm.2.1 102 = .ok (.baload, 1) := by decide +kernel
theorem dX10_fitsFirm_103 : decode mX10_fitsFirm.2.1 103 = .ok (.if_icmp .ne 7, 3) := by decide +kernel
theorem dX10_fitsFirm_106 : decode mX10_fitsFirm.2.1 106 = .ok (.iconst 1, 1) := by decide +kernel
theorem dX10_fitsFirm_107 : decode mX10_fitsFirm.2.1 107 = .ok (.goto 4, 3) := by decide +kernel
theorem dX10_fitsFirm_110 : decode mX10_fitsFirm.2.1 110 = .ok (.iconst 0, 1) := by decide +kernel
theorem dX10_fitsFirm_111 : decode mX10_fitsFirm.2.1 111 = .ok (.istore_n 3, 1) := by decide +kernel
theorem dX10_fitsFirm_112 : decode mX10_fitsFirm.2.1 112 = .ok (.iinc 4 1, 3) := by decide +kernel
theorem dX10_fitsFirm_115 : decode mX10_fitsFirm.2.1 115 = .ok (.goto (-110), 3) := by decide +kernel
theorem dX10_fitsFirm_118 : decode mX10_fitsFirm.2.1 118 = .ok (.iload_n 3, 1) := by decide +kernel
theorem dX10_fitsFirm_119 : decode mX10_fitsFirm.2.1 119 = .ok (.ireturn, 1) := by decide +kernel
theorem bX10_fitsFirm_0 {E : px_E} {d : Nat} {w : pw_W} {Q : Option Value → pw_W → Prop} {t : ct_T} (hw : w.1 = cs t) {x1 x2 : Int32}  
    (k1 : px_W E mX10_fitsFirm (d + 1) 0 0 5 [.ref 61, .int x1, .int x2, .int 1, .int 0] [] w Q) :
    px_W E mX10_fitsFirm (d + 1) 0 0 0 [.ref 61, .int x1, .int x2, .null, .null] [] w Q := by
  refine px_iconst dX10_fitsFirm_0 ic_1 ?_
  refine px_istore_n (ls' := [.ref 61, .int x1, .int x2, .int 1, .null]) dX10_fitsFirm_1 rfl ⟨by decide, rfl⟩ rfl ?_
  refine px_iconst dX10_fitsFirm_2 ic_0 ?_
  refine px_istore (ls' := [.ref 61, .int x1, .int x2, .int 1, .int 0]) dX10_fitsFirm_3 ⟨by decide, rfl⟩ rfl ?_
  exact k1
theorem eX10_fitsFirm {E : px_E} {d : Nat} {w : pw_W} {Q : Option Value → pw_W → Prop} {t : ct_T} (hw : w.1 = cs t) {x1 x2 : Int32}  
    (k1 : px_W E mX10_fitsFirm (d + 1) 0 0 5 [.ref 61, .int x1, .int x2, .int 1, .int 0] [] w Q) :
    px_Call E (d + 1) 0 0 mX10_fitsFirm [.ref 61, .int x1, .int x2] w Q :=
  px_enter (k := 2) (by decide) (Nat.le_of_ble_eq_true rfl) rfl (px_forget (bX10_fitsFirm_0 hw k1) ⟨Or.inr rfl, Or.inr rfl, Or.inr rfl, Or.inl rfl, Or.inl rfl, trivial⟩)
theorem bX10_fitsFirm_5 {E : px_E} {d : Nat} {w : pw_W} {Q : Option Value → pw_W → Prop} {t : ct_T} (hw : w.1 = cs t) {x1 x2 x3 x4 : Int32}  
    (k1 : (pw_I w 61 78) ≤ x4 → px_W E mX10_fitsFirm (d + 1) 0 0 118 [.null, .null, .null, .int x3, .null] [] w Q)
    (k2 : ¬ (pw_I w 61 78) ≤ x4 → x3 = 0 → px_W E mX10_fitsFirm (d + 1) 0 0 118 [.null, .null, .null, .int x3, .null] [] w Q)
    (k3 : ¬ (pw_I w 61 78) ≤ x4 → ¬ x3 = 0 → px_W E mX10_fitsFirm (d + 1) 0 0 18 [.ref 61, .int x1, .int x2, .int x3, .int x4] [] w Q) :
    px_W E mX10_fitsFirm (d + 1) 0 0 5 [.ref 61, .int x1, .int x2, .int x3, .int x4] [] w Q := by
  refine px_iload dX10_fitsFirm_5 rfl ?_
  refine px_aload_n dX10_fitsFirm_7 rfl rfl ?_
  refine px_getI dX10_fitsFirm_8 fr_10_434 rfl (px_sh1 hw sh_61) ?_
  refine px_icmp_ge (tgt := 118) dX10_fitsFirm_11 (by decide) (fun h1 => ?_) (fun h1 => ?_)
  ·
    exact px_forget (k1 h1) ⟨Or.inl rfl, Or.inl rfl, Or.inl rfl, Or.inr rfl, Or.inl rfl, trivial⟩
  ·
    refine px_iload_n dX10_fitsFirm_14 rfl rfl ?_
    refine px_if_eq (tgt := 118) dX10_fitsFirm_15 (by decide) (fun h2 => ?_) (fun h2 => ?_)
    ·
      exact px_forget (k2 h1 h2) ⟨Or.inl rfl, Or.inl rfl, Or.inl rfl, Or.inr rfl, Or.inl rfl, trivial⟩
    ·
      exact (k3 h1 h2)
theorem bX10_fitsFirm_18 {E : px_E} {d : Nat} {w : pw_W} {Q : Option Value → pw_W → Prop} {t : ct_T} (hw : w.1 = cs t) {x1 x2 x3 x4 : Int32}  (j1 : Nat) (hj1 : x4 = nI j1) (hl1 : j1 < 30)
    (k1 : x2 < (pw_I w 100 j1) → px_W E mX10_fitsFirm (d + 1) 0 0 112 [.ref 61, .int x1, .int x2, .int x3, .int x4] [] w Q)
    (k2 : ¬ x2 < (pw_I w 100 j1) → px_W E mX10_fitsFirm (d + 1) 0 0 29 [.ref 61, .int x1, .int x2, .int x3, .int x4] [] w Q) :
    px_W E mX10_fitsFirm (d + 1) 0 0 18 [.ref 61, .int x1, .int x2, .int x3, .int x4] [] w Q := by
  refine px_aload_n dX10_fitsFirm_18 rfl rfl ?_
  refine px_getR (v := 100) dX10_fitsFirm_19 fr_10_132 rfl (px_sh1 hw sh_61) (px_rf hw rf_61_75) (by decide) ?_
  refine px_iload dX10_fitsFirm_22 rfl ?_
  refine px_iald dX10_fitsFirm_24 (px_sh2 hw sh_100) (by decide) j1 hj1 hl1 ?_
  refine px_iload_n dX10_fitsFirm_25 rfl rfl ?_
  refine px_icmp_gt (tgt := 112) dX10_fitsFirm_26 (by decide) (fun h1 => ?_) (fun h1 => ?_)
  ·
    exact (k1 h1)
  ·
    exact (k2 h1)
theorem bX10_fitsFirm_29 {E : px_E} {d : Nat} {w : pw_W} {Q : Option Value → pw_W → Prop} {t : ct_T} (hw : w.1 = cs t) {x1 x2 x3 x4 : Int32}  (j1 : Nat) (hj1 : x4 = nI j1) (hl1 : j1 < 30)
    (k1 : (pw_I w 101 j1) < 0 → px_W E mX10_fitsFirm (d + 1) 0 0 53 [.ref 61, .int x1, .int x2, .null, .int x4] [] w Q)
    (k2 : ¬ (pw_I w 101 j1) < 0 → px_W E mX10_fitsFirm (d + 1) 0 0 39 [.ref 61, .int x1, .int x2, .int x3, .int x4] [] w Q) :
    px_W E mX10_fitsFirm (d + 1) 0 0 29 [.ref 61, .int x1, .int x2, .int x3, .int x4] [] w Q := by
  refine px_aload_n dX10_fitsFirm_29 rfl rfl ?_
  refine px_getR (v := 101) dX10_fitsFirm_30 fr_10_135 rfl (px_sh1 hw sh_61) (px_rf hw rf_61_76) (by decide) ?_
  refine px_iload dX10_fitsFirm_33 rfl ?_
  refine px_iald dX10_fitsFirm_35 (px_sh2 hw sh_101) (by decide) j1 hj1 hl1 ?_
  refine px_if_lt (tgt := 53) dX10_fitsFirm_36 (by decide) (fun h1 => ?_) (fun h1 => ?_)
  ·
    exact px_forget (k1 h1) ⟨Or.inr rfl, Or.inr rfl, Or.inr rfl, Or.inl rfl, Or.inr rfl, trivial⟩
  ·
    exact (k2 h1)
theorem bX10_fitsFirm_39 {E : px_E} {d : Nat} {w : pw_W} {Q : Option Value → pw_W → Prop} {t : ct_T} (hw : w.1 = cs t) {x1 x2 x3 x4 : Int32}  (j1 : Nat) (hj1 : x4 = nI j1) (hl1 : j1 < 30)
    (k1 : x2 < (pw_I w 101 j1) → px_W E mX10_fitsFirm (d + 1) 0 0 53 [.ref 61, .int x1, .int x2, .null, .int x4] [] w Q)
    (k2 : ¬ x2 < (pw_I w 101 j1) → px_W E mX10_fitsFirm (d + 1) 0 0 112 [.ref 61, .int x1, .int x2, .int x3, .int x4] [] w Q) :
    px_W E mX10_fitsFirm (d + 1) 0 0 39 [.ref 61, .int x1, .int x2, .int x3, .int x4] [] w Q := by
  refine px_aload_n dX10_fitsFirm_39 rfl rfl ?_
  refine px_getR (v := 101) dX10_fitsFirm_40 fr_10_135 rfl (px_sh1 hw sh_61) (px_rf hw rf_61_76) (by decide) ?_
  refine px_iload dX10_fitsFirm_43 rfl ?_
  refine px_iald dX10_fitsFirm_45 (px_sh2 hw sh_101) (by decide) j1 hj1 hl1 ?_
  refine px_iload_n dX10_fitsFirm_46 rfl rfl ?_
  refine px_icmp_gt (tgt := 53) dX10_fitsFirm_47 (by decide) (fun h1 => ?_) (fun h1 => ?_)
  ·
    exact px_forget (k1 h1) ⟨Or.inr rfl, Or.inr rfl, Or.inr rfl, Or.inl rfl, Or.inr rfl, trivial⟩
  ·
    refine px_goto (tgt := 112) dX10_fitsFirm_50 (by decide) ?_
    exact (k2 h1)
theorem bX10_fitsFirm_53 {E : px_E} {d : Nat} {w : pw_W} {Q : Option Value → pw_W → Prop} {t : ct_T} (hw : w.1 = cs t) {x1 x2 x4 : Int32}  (j1 : Nat) (hj1 : x4 = nI j1) (hl1 : j1 < 30) (j2 : Nat) (hj2 : (((90 * x1) + (6 * (pw_I w 97 j1))) + (pw_I w 98 j1)) = nI j2) (hl2 : j2 < 2790)
    (k1 : (pw_I w 103 j2) < (pw_I w 99 j1) → px_W E mX10_fitsFirm (d + 1) 0 0 96 [.ref 61, .int x1, .int x2, .null, .int x4] [.int 0] w Q)
    (k2 : ¬ (pw_I w 103 j2) < (pw_I w 99 j1) → px_W E mX10_fitsFirm (d + 1) 0 0 96 [.ref 61, .int x1, .int x2, .null, .int x4] [.int 1] w Q) :
    px_W E mX10_fitsFirm (d + 1) 0 0 53 [.ref 61, .int x1, .int x2, .null, .int x4] [] w Q := by
  refine px_aload_n dX10_fitsFirm_53 rfl rfl ?_
  refine px_getR (v := 103) dX10_fitsFirm_54 fr_10_142 rfl (px_sh1 hw sh_61) (px_rf hw rf_61_80) (by decide) ?_
  refine px_bipush dX10_fitsFirm_57 bp_90 ?_
  refine px_iload_n dX10_fitsFirm_59 rfl rfl ?_
  refine px_imul dX10_fitsFirm_60 ?_
  refine px_bipush dX10_fitsFirm_61 bp_6 ?_
  refine px_aload_n dX10_fitsFirm_63 rfl rfl ?_
  refine px_getR (v := 97) dX10_fitsFirm_64 fr_10_123 rfl (px_sh1 hw sh_61) (px_rf hw rf_61_72) (by decide) ?_
  refine px_iload dX10_fitsFirm_67 rfl ?_
  refine px_iald dX10_fitsFirm_69 (px_sh2 hw sh_97) (by decide) j1 hj1 hl1 ?_
  refine px_imul dX10_fitsFirm_70 ?_
  refine px_iadd dX10_fitsFirm_71 ?_
  refine px_aload_n dX10_fitsFirm_72 rfl rfl ?_
  refine px_getR (v := 98) dX10_fitsFirm_73 fr_10_126 rfl (px_sh1 hw sh_61) (px_rf hw rf_61_73) (by decide) ?_
  refine px_iload dX10_fitsFirm_76 rfl ?_
  refine px_iald dX10_fitsFirm_78 (px_sh2 hw sh_98) (by decide) j1 hj1 hl1 ?_
  refine px_iadd dX10_fitsFirm_79 ?_
  refine px_iald dX10_fitsFirm_80 (px_sh2 hw sh_103) (by decide) j2 hj2 hl2 ?_
  refine px_aload_n dX10_fitsFirm_81 rfl rfl ?_
  refine px_getR (v := 99) dX10_fitsFirm_82 fr_10_129 rfl (px_sh1 hw sh_61) (px_rf hw rf_61_74) (by decide) ?_
  refine px_iload dX10_fitsFirm_85 rfl ?_
  refine px_iald dX10_fitsFirm_87 (px_sh2 hw sh_99) (by decide) j1 hj1 hl1 ?_
  refine px_icmp_lt (tgt := 95) dX10_fitsFirm_88 (by decide) (fun h1 => ?_) (fun h1 => ?_)
  ·
    refine px_iconst dX10_fitsFirm_95 ic_0 ?_
    exact (k1 h1)
  ·
    refine px_iconst dX10_fitsFirm_91 ic_1 ?_
    refine px_goto (tgt := 96) dX10_fitsFirm_92 (by decide) ?_
    exact (k2 h1)
theorem bX10_fitsFirm_96 {E : px_E} {d : Nat} {w : pw_W} {Q : Option Value → pw_W → Prop} {t : ct_T} (hw : w.1 = cs t) {x1 x2 x4 y0 : Int32}  (j1 : Nat) (hj1 : x4 = nI j1) (hl1 : j1 < 30)
    (k1 : ¬ y0 = (pw_I w 102 j1) → px_W E mX10_fitsFirm (d + 1) 0 0 111 [.ref 61, .int x1, .int x2, .null, .int x4] [.int 0] w Q)
    (k2 : y0 = (pw_I w 102 j1) → px_W E mX10_fitsFirm (d + 1) 0 0 111 [.ref 61, .int x1, .int x2, .null, .int x4] [.int 1] w Q) :
    px_W E mX10_fitsFirm (d + 1) 0 0 96 [.ref 61, .int x1, .int x2, .null, .int x4] [.int y0] w Q := by
  refine px_aload_n dX10_fitsFirm_96 rfl rfl ?_
  refine px_getR (v := 102) dX10_fitsFirm_97 fr_10_138 rfl (px_sh1 hw sh_61) (px_rf hw rf_61_77) (by decide) ?_
  refine px_iload dX10_fitsFirm_100 rfl ?_
  refine px_zald dX10_fitsFirm_102 (px_sh2 hw sh_102) (by decide) j1 hj1 hl1 ?_
  refine px_icmp_ne (tgt := 110) dX10_fitsFirm_103 (by decide) (fun h1 => ?_) (fun h1 => ?_)
  ·
    refine px_iconst dX10_fitsFirm_110 ic_0 ?_
    exact (k1 h1)
  ·
    refine px_iconst dX10_fitsFirm_106 ic_1 ?_
    refine px_goto (tgt := 111) dX10_fitsFirm_107 (by decide) ?_
    exact (k2 h1)
theorem bX10_fitsFirm_111 {E : px_E} {d : Nat} {w : pw_W} {Q : Option Value → pw_W → Prop} {t : ct_T} (hw : w.1 = cs t) {x1 x2 x4 y0 : Int32}  
    (k1 : px_W E mX10_fitsFirm (d + 1) 0 0 112 [.ref 61, .int x1, .int x2, .int y0, .int x4] [] w Q) :
    px_W E mX10_fitsFirm (d + 1) 0 0 111 [.ref 61, .int x1, .int x2, .null, .int x4] [.int y0] w Q := by
  refine px_istore_n (ls' := [.ref 61, .int x1, .int x2, .int y0, .int x4]) dX10_fitsFirm_111 rfl ⟨by decide, rfl⟩ rfl ?_
  exact k1
theorem bX10_fitsFirm_112 {E : px_E} {d : Nat} {w : pw_W} {Q : Option Value → pw_W → Prop} {t : ct_T} (hw : w.1 = cs t) {x1 x2 x3 x4 : Int32}  
    (k1 : px_W E mX10_fitsFirm (d + 1) 0 0 5 [.ref 61, .int x1, .int x2, .int x3, .int (x4 + 1)] [] w Q) :
    px_W E mX10_fitsFirm (d + 1) 0 0 112 [.ref 61, .int x1, .int x2, .int x3, .int x4] [] w Q := by
  refine px_iinc (ls' := [.ref 61, .int x1, .int x2, .int x3, .int (x4 + 1)]) dX10_fitsFirm_112 ⟨by decide, rfl⟩ rfl rfl rfl ?_
  refine px_goto (tgt := 5) dX10_fitsFirm_115 (by decide) ?_
  exact k1
theorem bX10_fitsFirm_118 {E : px_E} {d : Nat} {w : pw_W} {Q : Option Value → pw_W → Prop} {t : ct_T} (hw : w.1 = cs t) {x3 : Int32}  (hb1 : x3 = 0 ∨ x3 = 1)
    (k1 : Q (some (.int x3)) w) :
    px_W E mX10_fitsFirm (d + 1) 0 0 118 [.null, .null, .null, .int x3, .null] [] w Q := by
  refine px_iload_n dX10_fitsFirm_118 rfl rfl ?_
  exact px_ireturn dX10_fitsFirm_119 rfl (px_nb (hb1)) k1
theorem dX10_layFits_0 : decode mX10_layFits.2.1 0 = .ok (.iconst 0, 1) := by decide +kernel
theorem dX10_layFits_1 : decode mX10_layFits.2.1 1 = .ok (.istore_n 2, 1) := by decide +kernel
theorem dX10_layFits_2 : decode mX10_layFits.2.1 2 = .ok (.iconst 0, 1) := by decide +kernel
theorem dX10_layFits_3 : decode mX10_layFits.2.1 3 = .ok (.istore_n 3, 1) := by decide +kernel
theorem dX10_layFits_4 : decode mX10_layFits.2.1 4 = .ok (.iload_n 3, 1) := by decide +kernel
theorem dX10_layFits_5 : decode mX10_layFits.2.1 5 = .ok (.bipush 30, 2) := by decide +kernel
theorem dX10_layFits_7 : decode mX10_layFits.2.1 7 = .ok (.if_icmp .gt 124, 3) := by decide +kernel
theorem dX10_layFits_10 : decode mX10_layFits.2.1 10 = .ok (.aload_n 0, 1) := by decide +kernel
theorem dX10_layFits_11 : decode mX10_layFits.2.1 11 = .ok (.getfield 404, 3) := by decide +kernel
theorem dX10_layFits_14 : decode mX10_layFits.2.1 14 = .ok (.ifCond .le 117, 3) := by decide +kernel
theorem dX10_layFits_17 : decode mX10_layFits.2.1 17 = .ok (.aload_n 0, 1) := by decide +kernel
theorem dX10_layFits_18 : decode mX10_layFits.2.1 18 = .ok (.invokevirtual 422, 3) := by decide +kernel
theorem dX10_layFits_21 : decode mX10_layFits.2.1 21 = .ok (.aload_n 0, 1) := by decide +kernel
theorem dX10_layFits_22 : decode mX10_layFits.2.1 22 = .ok (.getfield 102, 3) := by decide +kernel
theorem dX10_layFits_25 : decode mX10_layFits.2.1 25 = .ok (.aload_n 0, 1) := by decide +kernel
theorem dX10_layFits_26 : decode mX10_layFits.2.1 26 = .ok (.getfield 404, 3) := by decide +kernel
theorem dX10_layFits_29 : decode mX10_layFits.2.1 29 = .ok (.iconst 1, 1) := by decide +kernel
theorem dX10_layFits_30 : decode mX10_layFits.2.1 30 = .ok (.isub, 1) := by decide +kernel
theorem dX10_layFits_31 : decode mX10_layFits.2.1 31 = .ok (.iload_n 3, 1) := by decide +kernel
theorem dX10_layFits_32 : decode mX10_layFits.2.1 32 = .ok (.iastore, 1) := by decide +kernel
theorem dX10_layFits_33 : decode mX10_layFits.2.1 33 = .ok (.iconst 0, 1) := by decide +kernel
theorem dX10_layFits_34 : decode mX10_layFits.2.1 34 = .ok (.istore 4, 2) := by decide +kernel
theorem dX10_layFits_36 : decode mX10_layFits.2.1 36 = .ok (.iload 4, 2) := by decide +kernel
theorem dX10_layFits_38 : decode mX10_layFits.2.1 38 = .ok (.bipush 14, 2) := by decide +kernel
theorem dX10_layFits_40 : decode mX10_layFits.2.1 40 = .ok (.if_icmp .gt 61, 3) := by decide +kernel
theorem dX10_layFits_43 : decode mX10_layFits.2.1 43 = .ok (.iconst 0, 1) := by decide +kernel
theorem dX10_layFits_44 : decode mX10_layFits.2.1 44 = .ok (.istore 5, 2) := by decide +kernel
theorem dX10_layFits_46 : decode mX10_layFits.2.1 46 = .ok (.iload 5, 2) := by decide +kernel
theorem dX10_layFits_48 : decode mX10_layFits.2.1 48 = .ok (.aload_n 0, 1) := by decide +kernel
theorem dX10_layFits_49 : decode mX10_layFits.2.1 49 = .ok (.getfield 404, 3) := by decide +kernel
theorem dX10_layFits_52 : decode mX10_layFits.2.1 52 = .ok (.if_icmp .ge 37, 3) := by decide +kernel
theorem dX10_layFits_55 : decode mX10_layFits.2.1 55 = .ok (.aload_n 0, 1) := by decide +kernel
theorem dX10_layFits_56 : decode mX10_layFits.2.1 56 = .ok (.getfield 142, 3) := by decide +kernel
theorem dX10_layFits_59 : decode mX10_layFits.2.1 59 = .ok (.bipush 90, 2) := by decide +kernel
theorem dX10_layFits_61 : decode mX10_layFits.2.1 61 = .ok (.iload_n 3, 1) := by decide +kernel
theorem dX10_layFits_62 : decode mX10_layFits.2.1 62 = .ok (.imul, 1) := by decide +kernel
theorem dX10_layFits_63 : decode mX10_layFits.2.1 63 = .ok (.bipush 6, 2) := by decide +kernel
theorem dX10_layFits_65 : decode mX10_layFits.2.1 65 = .ok (.iload 4, 2) := by decide +kernel
theorem dX10_layFits_67 : decode mX10_layFits.2.1 67 = .ok (.imul, 1) := by decide +kernel
theorem dX10_layFits_68 : decode mX10_layFits.2.1 68 = .ok (.iadd, 1) := by decide +kernel
theorem dX10_layFits_69 : decode mX10_layFits.2.1 69 = .ok (.iload 5, 2) := by decide +kernel
theorem dX10_layFits_71 : decode mX10_layFits.2.1 71 = .ok (.iadd, 1) := by decide +kernel
theorem dX10_layFits_72 : decode mX10_layFits.2.1 72 = .ok (.aload_n 0, 1) := by decide +kernel
theorem dX10_layFits_73 : decode mX10_layFits.2.1 73 = .ok (.getfield 102, 3) := by decide +kernel
theorem dX10_layFits_76 : decode mX10_layFits.2.1 76 = .ok (.bipush 6, 2) := by decide +kernel
theorem dX10_layFits_78 : decode mX10_layFits.2.1 78 = .ok (.iload 5, 2) := by decide +kernel
theorem dX10_layFits_80 : decode mX10_layFits.2.1 80 = .ok (.iadd, 1) := by decide +kernel
theorem dX10_layFits_81 : decode mX10_layFits.2.1 81 = .ok (.iaload, 1) := by decide +kernel
theorem dX10_layFits_82 : decode mX10_layFits.2.1 82 = .ok (.iastore, 1) := by decide +kernel
theorem dX10_layFits_83 : decode mX10_layFits.2.1 83 = .ok (.iinc 5 1, 3) := by decide +kernel
theorem dX10_layFits_86 : decode mX10_layFits.2.1 86 = .ok (.goto (-40), 3) := by decide +kernel
theorem dX10_layFits_89 : decode mX10_layFits.2.1 89 = .ok (.aload_n 0, 1) := by decide +kernel
theorem dX10_layFits_90 : decode mX10_layFits.2.1 90 = .ok (.iconst 0, 1) := by decide +kernel
theorem dX10_layFits_91 : decode mX10_layFits.2.1 91 = .ok (.invokevirtual 495, 3) := by decide +kernel
theorem dX10_layFits_94 : decode mX10_layFits.2.1 94 = .ok (.pop, 1) := by decide +kernel
theorem dX10_layFits_95 : decode mX10_layFits.2.1 95 = .ok (.iinc 4 1, 3) := by decide +kernel
theorem dX10_layFits_98 : decode mX10_layFits.2.1 98 = .ok (.goto (-62), 3) := by decide +kernel
theorem dX10_layFits_101 : decode mX10_layFits.2.1 101 = .ok (.aload_n 0, 1) := by decide +kernel
theorem dX10_layFits_102 : decode mX10_layFits.2.1 102 = .ok (.getfield 148, 3) := by decide +kernel
theorem dX10_layFits_105 : decode mX10_layFits.2.1 105 = .ok (.iload_n 3, 1) := by decide +kernel
theorem dX10_layFits_106 : decode mX10_layFits.2.1 106 = .ok (.aload_n 0, 1) := by decide +kernel
theorem dX10_layFits_107 : decode mX10_layFits.2.1 107 = .ok (.iload_n 3, 1) := by decide +kernel
theorem dX10_layFits_108 : decode mX10_layFits.2.1 108 = .ok (.iload_n 1, 1) := by decide +kernel
theorem dX10_layFits_109 : decode mX10_layFits.2.1 109 = .ok (.invokevirtual 555, 3) := by decide +kernel
theorem dX10_layFits_112 : decode mX10_layFits.2.1 112 = .ok (.bastore, 1) := by decide +kernel
theorem dX10_layFits_113 : decode mX10_layFits.2.1 113 = .ok (.iload_n 2, 1) := by decide +kernel
theorem dX10_layFits_114 : decode mX10_layFits.2.1 114 = .ok (.aload_n 0, 1) := by decide +kernel
theorem dX10_layFits_115 : decode mX10_layFits.2.1 115 = .ok (.getfield 148, 3) := by decide +kernel
theorem dX10_layFits_118 : decode mX10_layFits.2.1 118 = .ok (.iload_n 3, 1) := by decide +kernel
theorem dX10_layFits_119 : decode mX10_layFits.2.1 119 = .ok (.baload, 1) := by decide +kernel
theorem dX10_layFits_120 : decode mX10_layFits.2.1 120 = .ok (.invokestatic 332, 3) := by decide +kernel
theorem dX10_layFits_123 : decode mX10_layFits.2.1 123 = .ok (.iadd, 1) := by decide +kernel
theorem dX10_layFits_124 : decode mX10_layFits.2.1 124 = .ok (.istore_n 2, 1) := by decide +kernel
theorem dX10_layFits_125 : decode mX10_layFits.2.1 125 = .ok (.iinc 3 1, 3) := by decide +kernel
theorem dX10_layFits_128 : decode mX10_layFits.2.1 128 = .ok (.goto (-124), 3) := by decide +kernel
theorem dX10_layFits_131 : decode mX10_layFits.2.1 131 = .ok (.iload_n 2, 1) := by decide +kernel
theorem dX10_layFits_132 : decode mX10_layFits.2.1 132 = .ok (.ireturn, 1) := by decide +kernel
theorem bX10_layFits_0 {E : px_E} {d : Nat} {w : pw_W} {Q : Option Value → pw_W → Prop} {t : ct_T} (hw : w.1 = cs t) {x1 : Int32}  
    (k1 : px_W E mX10_layFits (d + 2) 0 0 4 [.ref 61, .int x1, .int 0, .int 0, .null, .null] [] w Q) :
    px_W E mX10_layFits (d + 2) 0 0 0 [.ref 61, .int x1, .null, .null, .null, .null] [] w Q := by
  refine px_iconst dX10_layFits_0 ic_0 ?_
  refine px_istore_n (ls' := [.ref 61, .int x1, .int 0, .null, .null, .null]) dX10_layFits_1 rfl ⟨by decide, rfl⟩ rfl ?_
  refine px_iconst dX10_layFits_2 ic_0 ?_
  refine px_istore_n (ls' := [.ref 61, .int x1, .int 0, .int 0, .null, .null]) dX10_layFits_3 rfl ⟨by decide, rfl⟩ rfl ?_
  exact k1
theorem eX10_layFits {E : px_E} {d : Nat} {w : pw_W} {Q : Option Value → pw_W → Prop} {t : ct_T} (hw : w.1 = cs t) {x1 : Int32}  
    (k1 : px_W E mX10_layFits (d + 2) 0 0 4 [.ref 61, .int x1, .int 0, .int 0, .null, .null] [] w Q) :
    px_Call E (d + 2) 0 0 mX10_layFits [.ref 61, .int x1] w Q :=
  px_enter (k := 4) (by decide) (Nat.le_of_ble_eq_true rfl) rfl (px_forget (bX10_layFits_0 hw k1) ⟨Or.inr rfl, Or.inr rfl, Or.inl rfl, Or.inl rfl, Or.inl rfl, Or.inl rfl, trivial⟩)
theorem bX10_layFits_4 {E : px_E} {d : Nat} {w : pw_W} {Q : Option Value → pw_W → Prop} {t : ct_T} (hw : w.1 = cs t) {x1 x2 x3 : Int32}  
    (k1 : 30 < x3 → px_W E mX10_layFits (d + 2) 0 0 131 [.null, .null, .int x2, .null, .null, .null] [] w Q)
    (k2 : ¬ 30 < x3 → (pw_I w 61 51) ≤ 0 → px_W E mX10_layFits (d + 2) 0 0 131 [.null, .null, .int x2, .null, .null, .null] [] w Q)
    (k3 : ¬ 30 < x3 → ¬ (pw_I w 61 51) ≤ 0 → px_Call E (d + 1) 0 0 mX10_layTold [.ref 61] w (fun v w' => px_W E mX10_layFits (d + 2) 0 0 21 [.ref 61, .int x1, .int x2, .int x3, .null, .null] (v.toList ++ []) w' Q)) :
    px_W E mX10_layFits (d + 2) 0 0 4 [.ref 61, .int x1, .int x2, .int x3, .null, .null] [] w Q := by
  refine px_iload_n dX10_layFits_4 rfl rfl ?_
  refine px_bipush dX10_layFits_5 bp_30 ?_
  refine px_icmp_gt (tgt := 131) dX10_layFits_7 (by decide) (fun h1 => ?_) (fun h1 => ?_)
  ·
    exact px_forget (k1 h1) ⟨Or.inl rfl, Or.inl rfl, Or.inr rfl, Or.inl rfl, Or.inl rfl, Or.inl rfl, trivial⟩
  ·
    refine px_aload_n dX10_layFits_10 rfl rfl ?_
    refine px_getI dX10_layFits_11 fr_10_404 rfl (px_sh1 hw sh_61) ?_
    refine px_if_le (tgt := 131) dX10_layFits_14 (by decide) (fun h2 => ?_) (fun h2 => ?_)
    ·
      exact px_forget (k2 h1 h2) ⟨Or.inl rfl, Or.inl rfl, Or.inr rfl, Or.inl rfl, Or.inl rfl, Or.inl rfl, trivial⟩
    ·
      refine px_aload_n dX10_layFits_17 rfl rfl ?_
      exact px_callV (As := []) (st := []) (rc := 0) (rs := 0) (mc := 0) (ms := 0) dX10_layFits_18 lk_10_422 (px_sh1 hw sh_61) rfl rfl (Nat.le_of_ble_eq_true rfl) (k3 h1 h2)
theorem bX10_layFits_21 {E : px_E} {d : Nat} {w : pw_W} {Q : Option Value → pw_W → Prop} {t : ct_T} (hw : w.1 = cs t) {x1 x2 x3 : Int32}  (j1 : Nat) (hj1 : ((pw_I w 61 51) - 1) = nI j1) (hl1 : j1 < 15)
    (k1 : px_W E mX10_layFits (d + 2) 0 0 36 [.ref 61, .int x1, .int x2, .int x3, .int 0, .null] [] (pw_sI w 90 j1 x3) Q) :
    px_W E mX10_layFits (d + 2) 0 0 21 [.ref 61, .int x1, .int x2, .int x3, .null, .null] [] w Q := by
  refine px_aload_n dX10_layFits_21 rfl rfl ?_
  refine px_getR (v := 90) dX10_layFits_22 fr_10_102 rfl (px_sh1 hw sh_61) (px_rf hw rf_61_61) (by decide) ?_
  refine px_aload_n dX10_layFits_25 rfl rfl ?_
  refine px_getI dX10_layFits_26 fr_10_404 rfl (px_sh1 hw sh_61) ?_
  refine px_iconst dX10_layFits_29 ic_1 ?_
  refine px_isub dX10_layFits_30 ?_
  refine px_iload_n dX10_layFits_31 rfl rfl ?_
  refine px_iast dX10_layFits_32 (px_sh2 hw sh_90) (by decide) j1 hj1 hl1 (by omega) ?_
  refine px_iconst dX10_layFits_33 ic_0 ?_
  refine px_istore (ls' := [.ref 61, .int x1, .int x2, .int x3, .int 0, .null]) dX10_layFits_34 ⟨by decide, rfl⟩ rfl ?_
  exact k1
theorem bX10_layFits_36 {E : px_E} {d : Nat} {w : pw_W} {Q : Option Value → pw_W → Prop} {t : ct_T} (hw : w.1 = cs t) {x1 x2 x3 x4 : Int32}  
    (k1 : 14 < x4 → px_Call E (d + 1) 0 0 mX10_fitsFirm [.ref 61, .int x3, .int x1] w (fun v w' => px_W E mX10_layFits (d + 2) 0 0 112 [.ref 61, .int x1, .int x2, .int x3, .null, .null] (v.toList ++ [.int x3, .ref 105]) w' Q))
    (k2 : ¬ 14 < x4 → px_W E mX10_layFits (d + 2) 0 0 46 [.ref 61, .int x1, .int x2, .int x3, .int x4, .int 0] [] w Q) :
    px_W E mX10_layFits (d + 2) 0 0 36 [.ref 61, .int x1, .int x2, .int x3, .int x4, .null] [] w Q := by
  refine px_iload dX10_layFits_36 rfl ?_
  refine px_bipush dX10_layFits_38 bp_14 ?_
  refine px_icmp_gt (tgt := 101) dX10_layFits_40 (by decide) (fun h1 => ?_) (fun h1 => ?_)
  ·
    refine px_aload_n dX10_layFits_101 rfl rfl ?_
    refine px_getR (v := 105) dX10_layFits_102 fr_10_148 rfl (px_sh1 hw sh_61) (px_rf hw rf_61_82) (by decide) ?_
    refine px_iload_n dX10_layFits_105 rfl rfl ?_
    refine px_aload_n dX10_layFits_106 rfl rfl ?_
    refine px_iload_n dX10_layFits_107 rfl rfl ?_
    refine px_iload_n dX10_layFits_108 rfl rfl ?_
    refine px_forget (ls' := [.ref 61, .int x1, .int x2, .int x3, .null, .null]) ?_ ⟨Or.inr rfl, Or.inr rfl, Or.inr rfl, Or.inr rfl, Or.inl rfl, Or.inl rfl, trivial⟩
    exact px_callV (As := [.int x3, .int x1]) (st := [.int x3, .ref 105]) (rc := 0) (rs := 0) (mc := 0) (ms := 0) dX10_layFits_109 lk_10_555 (px_sh1 hw sh_61) rfl rfl (Nat.le_of_ble_eq_true rfl) (k1 h1)
  ·
    refine px_iconst dX10_layFits_43 ic_0 ?_
    refine px_istore (ls' := [.ref 61, .int x1, .int x2, .int x3, .int x4, .int 0]) dX10_layFits_44 ⟨by decide, rfl⟩ rfl ?_
    exact (k2 h1)
theorem bX10_layFits_46 {E : px_E} {d : Nat} {w : pw_W} {Q : Option Value → pw_W → Prop} {t : ct_T} (hw : w.1 = cs t) {x1 x2 x3 x4 x5 : Int32}  
    (k1 : (pw_I w 61 51) ≤ x5 → px_Call E (d + 1) 0 0 mX10_goDay [.ref 61, .int 0] w (fun v w' => px_W E mX10_layFits (d + 2) 0 0 94 [.ref 61, .int x1, .int x2, .int x3, .int x4, .null] (v.toList ++ []) w' Q))
    (k2 : ¬ (pw_I w 61 51) ≤ x5 → px_W E mX10_layFits (d + 2) 0 0 55 [.ref 61, .int x1, .int x2, .int x3, .int x4, .int x5] [] w Q) :
    px_W E mX10_layFits (d + 2) 0 0 46 [.ref 61, .int x1, .int x2, .int x3, .int x4, .int x5] [] w Q := by
  refine px_iload dX10_layFits_46 rfl ?_
  refine px_aload_n dX10_layFits_48 rfl rfl ?_
  refine px_getI dX10_layFits_49 fr_10_404 rfl (px_sh1 hw sh_61) ?_
  refine px_icmp_ge (tgt := 89) dX10_layFits_52 (by decide) (fun h1 => ?_) (fun h1 => ?_)
  ·
    refine px_aload_n dX10_layFits_89 rfl rfl ?_
    refine px_iconst dX10_layFits_90 ic_0 ?_
    refine px_forget (ls' := [.ref 61, .int x1, .int x2, .int x3, .int x4, .null]) ?_ ⟨Or.inr rfl, Or.inr rfl, Or.inr rfl, Or.inr rfl, Or.inr rfl, Or.inl rfl, trivial⟩
    exact px_callV (As := [.int 0]) (st := []) (rc := 0) (rs := 0) (mc := 0) (ms := 0) dX10_layFits_91 lk_10_495 (px_sh1 hw sh_61) rfl rfl (Nat.le_of_ble_eq_true rfl) (k1 h1)
  ·
    exact (k2 h1)
theorem bX10_layFits_55 {E : px_E} {d : Nat} {w : pw_W} {Q : Option Value → pw_W → Prop} {t : ct_T} (hw : w.1 = cs t) {x1 x2 x3 x4 x5 : Int32}  (j1 : Nat) (hj1 : (6 + x5) = nI j1) (hl1 : j1 < 15) (j2 : Nat) (hj2 : (((90 * x3) + (6 * x4)) + x5) = nI j2) (hl2 : j2 < 2790)
    (k1 : px_W E mX10_layFits (d + 2) 0 0 46 [.ref 61, .int x1, .int x2, .int x3, .int x4, .int (x5 + 1)] [] (pw_sI w 103 j2 (pw_I w 90 j1)) Q) :
    px_W E mX10_layFits (d + 2) 0 0 55 [.ref 61, .int x1, .int x2, .int x3, .int x4, .int x5] [] w Q := by
  refine px_aload_n dX10_layFits_55 rfl rfl ?_
  refine px_getR (v := 103) dX10_layFits_56 fr_10_142 rfl (px_sh1 hw sh_61) (px_rf hw rf_61_80) (by decide) ?_
  refine px_bipush dX10_layFits_59 bp_90 ?_
  refine px_iload_n dX10_layFits_61 rfl rfl ?_
  refine px_imul dX10_layFits_62 ?_
  refine px_bipush dX10_layFits_63 bp_6 ?_
  refine px_iload dX10_layFits_65 rfl ?_
  refine px_imul dX10_layFits_67 ?_
  refine px_iadd dX10_layFits_68 ?_
  refine px_iload dX10_layFits_69 rfl ?_
  refine px_iadd dX10_layFits_71 ?_
  refine px_aload_n dX10_layFits_72 rfl rfl ?_
  refine px_getR (v := 90) dX10_layFits_73 fr_10_102 rfl (px_sh1 hw sh_61) (px_rf hw rf_61_61) (by decide) ?_
  refine px_bipush dX10_layFits_76 bp_6 ?_
  refine px_iload dX10_layFits_78 rfl ?_
  refine px_iadd dX10_layFits_80 ?_
  refine px_iald dX10_layFits_81 (px_sh2 hw sh_90) (by decide) j1 hj1 hl1 ?_
  refine px_iast dX10_layFits_82 (px_sh2 hw sh_103) (by decide) j2 hj2 hl2 (by omega) ?_
  refine px_iinc (ls' := [.ref 61, .int x1, .int x2, .int x3, .int x4, .int (x5 + 1)]) dX10_layFits_83 ⟨by decide, rfl⟩ rfl rfl rfl ?_
  refine px_goto (tgt := 46) dX10_layFits_86 (by decide) ?_
  exact k1
theorem bX10_layFits_94 {E : px_E} {d : Nat} {w : pw_W} {Q : Option Value → pw_W → Prop} {t : ct_T} (hw : w.1 = cs t) {x1 x2 x3 x4 y0 : Int32}  
    (k1 : px_W E mX10_layFits (d + 2) 0 0 36 [.ref 61, .int x1, .int x2, .int x3, .int (x4 + 1), .null] [] w Q) :
    px_W E mX10_layFits (d + 2) 0 0 94 [.ref 61, .int x1, .int x2, .int x3, .int x4, .null] [.int y0] w Q := by
  refine px_pop dX10_layFits_94 rfl ?_
  refine px_iinc (ls' := [.ref 61, .int x1, .int x2, .int x3, .int (x4 + 1), .null]) dX10_layFits_95 ⟨by decide, rfl⟩ rfl rfl rfl ?_
  refine px_goto (tgt := 36) dX10_layFits_98 (by decide) ?_
  exact k1
theorem bX10_layFits_112 {E : px_E} {d : Nat} {w : pw_W} {Q : Option Value → pw_W → Prop} {t : ct_T} (hw : w.1 = cs t) {x1 x2 x3 y1 y2 : Int32}  (j1 : Nat) (hj1 : y1 = nI j1) (hl1 : j1 < 31) (hb2 : y2 = 0 ∨ y2 = 1) (j2 : Nat) (hj2 : x3 = nI j2) (hl2 : j2 < 31)
    (k1 : px_W E mX10_layFits (d + 2) 0 0 4 [.ref 61, .int x1, .int (x2 + (hX10_truth (pw_I (pw_sI w 105 j1 y2) 105 j2))), .int (x3 + 1), .null, .null] [] (pw_sI w 105 j1 y2) Q) :
    px_W E mX10_layFits (d + 2) 0 0 112 [.ref 61, .int x1, .int x2, .int x3, .null, .null] [.int y2, .int y1, .ref 105] w Q := by
  refine px_zast dX10_layFits_112 (px_sh2 hw sh_105) (by decide) j1 hj1 hl1 (px_zb (hb2)) (by omega) ?_
  refine px_iload_n dX10_layFits_113 rfl rfl ?_
  refine px_aload_n dX10_layFits_114 rfl rfl ?_
  refine px_getR (v := 105) dX10_layFits_115 fr_10_148 rfl (px_sh1 (hI hw) sh_61) (px_rf (hI hw) rf_61_82) (by decide) ?_
  refine px_iload_n dX10_layFits_118 rfl rfl ?_
  refine px_zald dX10_layFits_119 (px_sh2 (hI hw) sh_105) (by decide) j2 hj2 hl2 ?_
  refine px_forget (ls' := [.ref 61, .int x1, .null, .int x3, .null, .null]) ?_ ⟨Or.inr rfl, Or.inr rfl, Or.inl rfl, Or.inr rfl, Or.inl rfl, Or.inl rfl, trivial⟩
  refine px_callS (As := [.int (pw_I (pw_sI w 105 j1 y2) 105 j2)]) (st := [.int x2]) (rc := 0) (rs := 0) (mc := 0) (ms := 0) dX10_layFits_120 lk_10_332 rfl rfl (Nat.le_of_ble_eq_true rfl) (sX10_truth ?_)
  show px_W E mX10_layFits (d + 2) 0 0 123 [.ref 61, .int x1, .null, .int x3, .null, .null] [.int (hX10_truth (pw_I (pw_sI w 105 j1 y2) 105 j2)), .int x2] (pw_sI w 105 j1 y2) Q
  refine px_iadd dX10_layFits_123 ?_
  refine px_istore_n (ls' := [.ref 61, .int x1, .int (x2 + (hX10_truth (pw_I (pw_sI w 105 j1 y2) 105 j2))), .int x3, .null, .null]) dX10_layFits_124 rfl ⟨by decide, rfl⟩ rfl ?_
  refine px_iinc (ls' := [.ref 61, .int x1, .int (x2 + (hX10_truth (pw_I (pw_sI w 105 j1 y2) 105 j2))), .int (x3 + 1), .null, .null]) dX10_layFits_125 ⟨by decide, rfl⟩ rfl rfl rfl ?_
  refine px_goto (tgt := 4) dX10_layFits_128 (by decide) ?_
  exact k1
theorem bX10_layFits_131 {E : px_E} {d : Nat} {w : pw_W} {Q : Option Value → pw_W → Prop} {t : ct_T} (hw : w.1 = cs t) {x2 : Int32}  
    (k1 : Q (some (.int x2)) w) :
    px_W E mX10_layFits (d + 2) 0 0 131 [.null, .null, .int x2, .null, .null, .null] [] w Q := by
  refine px_iload_n dX10_layFits_131 rfl rfl ?_
  exact px_ireturn dX10_layFits_132 rfl rfl k1
theorem dX10_fits_0 : decode mX10_fits.2.1 0 = .ok (.aload_n 0, 1) := by decide +kernel
theorem dX10_fits_1 : decode mX10_fits.2.1 1 = .ok (.iload_n 1, 1) := by decide +kernel
theorem dX10_fits_2 : decode mX10_fits.2.1 2 = .ok (.invokevirtual 558, 3) := by decide +kernel
theorem dX10_fits_5 : decode mX10_fits.2.1 5 = .ok (.ireturn, 1) := by decide +kernel
theorem bX10_fits_0 {E : px_E} {d : Nat} {w : pw_W} {Q : Option Value → pw_W → Prop} {t : ct_T} (hw : w.1 = cs t) {x1 : Int32}  
    (k1 : px_Call E d 0 0 mX10_layFits [.ref 61, .int x1] w (fun v w' => px_W E mX10_fits (d + 1) 0 0 5 [.null, .null] (v.toList ++ []) w' Q)) :
    px_W E mX10_fits (d + 1) 0 0 0 [.ref 61, .int x1] [] w Q := by
  refine px_aload_n dX10_fits_0 rfl rfl ?_
  refine px_iload_n dX10_fits_1 rfl rfl ?_
  refine px_forget (ls' := [.null, .null]) ?_ ⟨Or.inl rfl, Or.inl rfl, trivial⟩
  exact px_callV (As := [.int x1]) (st := []) (rc := 0) (rs := 0) (mc := 0) (ms := 0) dX10_fits_2 lk_10_558 (px_sh1 hw sh_61) rfl rfl (Nat.le_of_ble_eq_true rfl) k1
theorem eX10_fits {E : px_E} {d : Nat} {w : pw_W} {Q : Option Value → pw_W → Prop} {t : ct_T} (hw : w.1 = cs t) {x1 : Int32}  
    (k1 : px_Call E d 0 0 mX10_layFits [.ref 61, .int x1] w (fun v w' => px_W E mX10_fits (d + 1) 0 0 5 [.null, .null] (v.toList ++ []) w' Q)) :
    px_Call E (d + 1) 0 0 mX10_fits [.ref 61, .int x1] w Q :=
  px_enter (k := 0) (by decide) (Nat.le_of_ble_eq_true rfl) rfl (px_forget (bX10_fits_0 hw k1) ⟨Or.inr rfl, Or.inr rfl, trivial⟩)
theorem bX10_fits_5 {E : px_E} {d : Nat} {w : pw_W} {Q : Option Value → pw_W → Prop} {t : ct_T} (hw : w.1 = cs t) {y0 : Int32}  
    (k1 : Q (some (.int y0)) w) :
    px_W E mX10_fits (d + 1) 0 0 5 [.null, .null] [.int y0] w Q := by
  exact px_ireturn dX10_fits_5 rfl rfl k1
theorem dX10_sure_0 : decode mX10_sure.2.1 0 = .ok (.iload_n 1, 1) := by decide +kernel
theorem dX10_sure_1 : decode mX10_sure.2.1 1 = .ok (.iconst 0, 1) := by decide +kernel
theorem dX10_sure_2 : decode mX10_sure.2.1 2 = .ok (.iconst 1, 1) := by decide +kernel
theorem dX10_sure_3 : decode mX10_sure.2.1 3 = .ok (.invokestatic 440, 3) := by decide +kernel
theorem dX10_sure_6 : decode mX10_sure.2.1 6 = .ok (.ifCond .eq 11, 3) := by decide +kernel
theorem dX10_sure_9 : decode mX10_sure.2.1 9 = .ok (.aload_n 0, 1) := by decide +kernel
theorem dX10_sure_10 : decode mX10_sure.2.1 10 = .ok (.iload_n 2, 1) := by decide +kernel
theorem dX10_sure_11 : decode mX10_sure.2.1 11 = .ok (.invokevirtual 558, 3) := by decide +kernel
theorem dX10_sure_14 : decode mX10_sure.2.1 14 = .ok (.ifCond .ne 5, 3) := by decide +kernel
theorem dX10_sure_17 : decode mX10_sure.2.1 17 = .ok (.iconst (-1), 1) := by decide +kernel
theorem dX10_sure_18 : decode mX10_sure.2.1 18 = .ok (.ireturn, 1) := by decide +kernel
theorem dX10_sure_19 : decode mX10_sure.2.1 19 = .ok (.iconst (-1), 1) := by decide +kernel
theorem dX10_sure_20 : decode mX10_sure.2.1 20 = .ok (.istore_n 3, 1) := by decide +kernel
theorem dX10_sure_21 : decode mX10_sure.2.1 21 = .ok (.iconst 0, 1) := by decide +kernel
theorem dX10_sure_22 : decode mX10_sure.2.1 22 = .ok (.istore 4, 2) := by decide +kernel
theorem dX10_sure_24 : decode mX10_sure.2.1 24 = .ok (.iload 4, 2) := by decide +kernel
theorem dX10_sure_26 : decode mX10_sure.2.1 26 = .ok (.bipush 30, 2) := by decide +kernel
theorem dX10_sure_28 : decode mX10_sure.2.1 28 = .ok (.if_icmp .gt 31, 3) := by decide +kernel
theorem dX10_sure_31 : decode mX10_sure.2.1 31 = .ok (.aload_n 0, 1) := by decide +kernel
theorem dX10_sure_32 : decode mX10_sure.2.1 32 = .ok (.getfield 148, 3) := by decide +kernel
theorem dX10_sure_35 : decode mX10_sure.2.1 35 = .ok (.iload 4, 2) := by decide +kernel
theorem dX10_sure_37 : decode mX10_sure.2.1 37 = .ok (.baload, 1) := by decide +kernel
theorem dX10_sure_38 : decode mX10_sure.2.1 38 = .ok (.ifCond .eq 15, 3) := by decide +kernel
theorem dX10_sure_41 : decode mX10_sure.2.1 41 = .ok (.iload_n 3, 1) := by decide +kernel
theorem dX10_sure_42 : decode mX10_sure.2.1 42 = .ok (.ifCond .lt 8, 3) := by decide +kernel
theorem dX10_sure_45 : decode mX10_sure.2.1 45 = .ok (.iload_n 1, 1) := by decide +kernel
theorem dX10_sure_46 : decode mX10_sure.2.1 46 = .ok (.iconst 1, 1) := by decide +kernel
theorem dX10_sure_47 : decode mX10_sure.2.1 47 = .ok (.if_icmp .ne 6, 3) := by decide +kernel
theorem dX10_sure_50 : decode mX10_sure.2.1 50 = .ok (.iload 4, 2) := by decide +kernel
theorem dX10_sure_52 : decode mX10_sure.2.1 52 = .ok (.istore_n 3, 1) := by decide +kernel
theorem dX10_sure_53 : decode mX10_sure.2.1 53 = .ok (.iinc 4 1, 3) := by decide +kernel
theorem dX10_sure_56 : decode mX10_sure.2.1 56 = .ok (.goto (-32), 3) := by decide +kernel
theorem dX10_sure_59 : decode mX10_sure.2.1 59 = .ok (.iload_n 3, 1) := by decide +kernel
theorem dX10_sure_60 : decode mX10_sure.2.1 60 = .ok (.ireturn, 1) := by decide +kernel
theorem bX10_sure_0 {E : px_E} {d : Nat} {w : pw_W} {Q : Option Value → pw_W → Prop} {t : ct_T} (hw : w.1 = cs t) {x1 x2 : Int32}  
    (k1 : ¬ (pX10_isIn x1 0 1) → px_W E mX10_sure (d + 2) 0 0 17 [.null, .null, .null, .null, .null] [] w Q)
    (k2 : (pX10_isIn x1 0 1) → px_Call E (d + 1) 0 0 mX10_layFits [.ref 61, .int x2] w (fun v w' => px_W E mX10_sure (d + 2) 0 0 14 [.ref 61, .int x1, .null, .null, .null] (v.toList ++ []) w' Q)) :
    px_W E mX10_sure (d + 2) 0 0 0 [.ref 61, .int x1, .int x2, .null, .null] [] w Q := by
  refine px_iload_n dX10_sure_0 rfl rfl ?_
  refine px_iconst dX10_sure_1 ic_0 ?_
  refine px_iconst dX10_sure_2 ic_1 ?_
  refine px_callS (As := [.int x1, .int 0, .int 1]) (st := []) (rc := 0) (rs := 0) (mc := 0) (ms := 0) dX10_sure_3 lk_10_440 rfl rfl (Nat.le_of_ble_eq_true rfl) (sX10_isIn ?_)
  show px_W E mX10_sure (d + 2) 0 0 6 [.ref 61, .int x1, .int x2, .null, .null] [.int (jb (pX10_isIn x1 0 1))] w Q
  refine px_jb_eq (tgt := 17) dX10_sure_6 (by decide) (fun h1 => ?_) (fun h1 => ?_)
  ·
    exact px_forget (k1 h1) ⟨Or.inl rfl, Or.inl rfl, Or.inl rfl, Or.inl rfl, Or.inl rfl, trivial⟩
  ·
    refine px_aload_n dX10_sure_9 rfl rfl ?_
    refine px_iload_n dX10_sure_10 rfl rfl ?_
    refine px_forget (ls' := [.ref 61, .int x1, .null, .null, .null]) ?_ ⟨Or.inr rfl, Or.inr rfl, Or.inl rfl, Or.inl rfl, Or.inl rfl, trivial⟩
    exact px_callV (As := [.int x2]) (st := []) (rc := 0) (rs := 0) (mc := 0) (ms := 0) dX10_sure_11 lk_10_558 (px_sh1 hw sh_61) rfl rfl (Nat.le_of_ble_eq_true rfl) (k2 h1)
theorem eX10_sure {E : px_E} {d : Nat} {w : pw_W} {Q : Option Value → pw_W → Prop} {t : ct_T} (hw : w.1 = cs t) {x1 x2 : Int32}  
    (k1 : ¬ (pX10_isIn x1 0 1) → px_W E mX10_sure (d + 2) 0 0 17 [.null, .null, .null, .null, .null] [] w Q)
    (k2 : (pX10_isIn x1 0 1) → px_Call E (d + 1) 0 0 mX10_layFits [.ref 61, .int x2] w (fun v w' => px_W E mX10_sure (d + 2) 0 0 14 [.ref 61, .int x1, .null, .null, .null] (v.toList ++ []) w' Q)) :
    px_Call E (d + 2) 0 0 mX10_sure [.ref 61, .int x1, .int x2] w Q :=
  px_enter (k := 2) (by decide) (Nat.le_of_ble_eq_true rfl) rfl (px_forget (bX10_sure_0 hw k1 k2) ⟨Or.inr rfl, Or.inr rfl, Or.inr rfl, Or.inl rfl, Or.inl rfl, trivial⟩)
theorem bX10_sure_14 {E : px_E} {d : Nat} {w : pw_W} {Q : Option Value → pw_W → Prop} {t : ct_T} (hw : w.1 = cs t) {x1 y0 : Int32}  
    (k1 : ¬ y0 = 0 → px_W E mX10_sure (d + 2) 0 0 24 [.ref 61, .int x1, .null, .int (-1), .int 0] [] w Q)
    (k2 : y0 = 0 → px_W E mX10_sure (d + 2) 0 0 17 [.null, .null, .null, .null, .null] [] w Q) :
    px_W E mX10_sure (d + 2) 0 0 14 [.ref 61, .int x1, .null, .null, .null] [.int y0] w Q := by
  refine px_if_ne (tgt := 19) dX10_sure_14 (by decide) (fun h1 => ?_) (fun h1 => ?_)
  ·
    refine px_iconst dX10_sure_19 ic_m1 ?_
    refine px_istore_n (ls' := [.ref 61, .int x1, .null, .int (-1), .null]) dX10_sure_20 rfl ⟨by decide, rfl⟩ rfl ?_
    refine px_iconst dX10_sure_21 ic_0 ?_
    refine px_istore (ls' := [.ref 61, .int x1, .null, .int (-1), .int 0]) dX10_sure_22 ⟨by decide, rfl⟩ rfl ?_
    exact (k1 h1)
  ·
    exact px_forget (k2 h1) ⟨Or.inl rfl, Or.inl rfl, Or.inl rfl, Or.inl rfl, Or.inl rfl, trivial⟩
theorem bX10_sure_17 {E : px_E} {d : Nat} {w : pw_W} {Q : Option Value → pw_W → Prop} {t : ct_T} (hw : w.1 = cs t)  
    (k1 : Q (some (.int (-1))) w) :
    px_W E mX10_sure (d + 2) 0 0 17 [.null, .null, .null, .null, .null] [] w Q := by
  refine px_iconst dX10_sure_17 ic_m1 ?_
  exact px_ireturn dX10_sure_18 rfl rfl k1
theorem bX10_sure_24 {E : px_E} {d : Nat} {w : pw_W} {Q : Option Value → pw_W → Prop} {t : ct_T} (hw : w.1 = cs t) {x1 x3 x4 : Int32}  
    (k1 : 30 < x4 → Q (some (.int x3)) w)
    (k2 : ¬ 30 < x4 → px_W E mX10_sure (d + 2) 0 0 31 [.ref 61, .int x1, .null, .int x3, .int x4] [] w Q) :
    px_W E mX10_sure (d + 2) 0 0 24 [.ref 61, .int x1, .null, .int x3, .int x4] [] w Q := by
  refine px_iload dX10_sure_24 rfl ?_
  refine px_bipush dX10_sure_26 bp_30 ?_
  refine px_icmp_gt (tgt := 59) dX10_sure_28 (by decide) (fun h1 => ?_) (fun h1 => ?_)
  ·
    refine px_iload_n dX10_sure_59 rfl rfl ?_
    exact px_ireturn dX10_sure_60 rfl rfl (k1 h1)
  ·
    exact (k2 h1)
theorem bX10_sure_31 {E : px_E} {d : Nat} {w : pw_W} {Q : Option Value → pw_W → Prop} {t : ct_T} (hw : w.1 = cs t) {x1 x3 x4 : Int32}  (j1 : Nat) (hj1 : x4 = nI j1) (hl1 : j1 < 31)
    (k1 : (pw_I w 105 j1) = 0 → px_W E mX10_sure (d + 2) 0 0 53 [.ref 61, .int x1, .null, .int x3, .int x4] [] w Q)
    (k2 : ¬ (pw_I w 105 j1) = 0 → x3 < 0 → px_W E mX10_sure (d + 2) 0 0 50 [.ref 61, .int x1, .null, .null, .int x4] [] w Q)
    (k3 : ¬ (pw_I w 105 j1) = 0 → ¬ x3 < 0 → ¬ x1 = 1 → px_W E mX10_sure (d + 2) 0 0 53 [.ref 61, .int x1, .null, .int x3, .int x4] [] w Q)
    (k4 : ¬ (pw_I w 105 j1) = 0 → ¬ x3 < 0 → x1 = 1 → px_W E mX10_sure (d + 2) 0 0 50 [.ref 61, .int x1, .null, .null, .int x4] [] w Q) :
    px_W E mX10_sure (d + 2) 0 0 31 [.ref 61, .int x1, .null, .int x3, .int x4] [] w Q := by
  refine px_aload_n dX10_sure_31 rfl rfl ?_
  refine px_getR (v := 105) dX10_sure_32 fr_10_148 rfl (px_sh1 hw sh_61) (px_rf hw rf_61_82) (by decide) ?_
  refine px_iload dX10_sure_35 rfl ?_
  refine px_zald dX10_sure_37 (px_sh2 hw sh_105) (by decide) j1 hj1 hl1 ?_
  refine px_if_eq (tgt := 53) dX10_sure_38 (by decide) (fun h1 => ?_) (fun h1 => ?_)
  ·
    exact (k1 h1)
  ·
    refine px_iload_n dX10_sure_41 rfl rfl ?_
    refine px_if_lt (tgt := 50) dX10_sure_42 (by decide) (fun h2 => ?_) (fun h2 => ?_)
    ·
      exact px_forget (k2 h1 h2) ⟨Or.inr rfl, Or.inr rfl, Or.inl rfl, Or.inl rfl, Or.inr rfl, trivial⟩
    ·
      refine px_iload_n dX10_sure_45 rfl rfl ?_
      refine px_iconst dX10_sure_46 ic_1 ?_
      refine px_icmp_ne (tgt := 53) dX10_sure_47 (by decide) (fun h3 => ?_) (fun h3 => ?_)
      ·
        exact (k3 h1 h2 h3)
      ·
        exact px_forget (k4 h1 h2 h3) ⟨Or.inr rfl, Or.inr rfl, Or.inl rfl, Or.inl rfl, Or.inr rfl, trivial⟩
theorem bX10_sure_50 {E : px_E} {d : Nat} {w : pw_W} {Q : Option Value → pw_W → Prop} {t : ct_T} (hw : w.1 = cs t) {x1 x4 : Int32}  
    (k1 : px_W E mX10_sure (d + 2) 0 0 53 [.ref 61, .int x1, .null, .int x4, .int x4] [] w Q) :
    px_W E mX10_sure (d + 2) 0 0 50 [.ref 61, .int x1, .null, .null, .int x4] [] w Q := by
  refine px_iload dX10_sure_50 rfl ?_
  refine px_istore_n (ls' := [.ref 61, .int x1, .null, .int x4, .int x4]) dX10_sure_52 rfl ⟨by decide, rfl⟩ rfl ?_
  exact k1
theorem bX10_sure_53 {E : px_E} {d : Nat} {w : pw_W} {Q : Option Value → pw_W → Prop} {t : ct_T} (hw : w.1 = cs t) {x1 x3 x4 : Int32}  
    (k1 : px_W E mX10_sure (d + 2) 0 0 24 [.ref 61, .int x1, .null, .int x3, .int (x4 + 1)] [] w Q) :
    px_W E mX10_sure (d + 2) 0 0 53 [.ref 61, .int x1, .null, .int x3, .int x4] [] w Q := by
  refine px_iinc (ls' := [.ref 61, .int x1, .null, .int x3, .int (x4 + 1)]) dX10_sure_53 ⟨by decide, rfl⟩ rfl rfl rfl ?_
  refine px_goto (tgt := 24) dX10_sure_56 (by decide) ?_
  exact k1
theorem dX10_leftBy_0 : decode mX10_leftBy.2.1 0 = .ok (.iconst 0, 1) := by decide +kernel
theorem dX10_leftBy_1 : decode mX10_leftBy.2.1 1 = .ok (.istore_n 3, 1) := by decide +kernel
theorem dX10_leftBy_2 : decode mX10_leftBy.2.1 2 = .ok (.iload_n 3, 1) := by decide +kernel
theorem dX10_leftBy_3 : decode mX10_leftBy.2.1 3 = .ok (.bipush 99, 2) := by decide +kernel
theorem dX10_leftBy_5 : decode mX10_leftBy.2.1 5 = .ok (.if_icmp .gt 16, 3) := by decide +kernel
theorem dX10_leftBy_8 : decode mX10_leftBy.2.1 8 = .ok (.aload_n 0, 1) := by decide +kernel
theorem dX10_leftBy_9 : decode mX10_leftBy.2.1 9 = .ok (.getfield 145, 3) := by decide +kernel
theorem dX10_leftBy_12 : decode mX10_leftBy.2.1 12 = .ok (.iload_n 3, 1) := by decide +kernel
theorem dX10_leftBy_13 : decode mX10_leftBy.2.1 13 = .ok (.iconst 0, 1) := by decide +kernel
theorem dX10_leftBy_14 : decode mX10_leftBy.2.1 14 = .ok (.iastore, 1) := by decide +kernel
theorem dX10_leftBy_15 : decode mX10_leftBy.2.1 15 = .ok (.iinc 3 1, 3) := by decide +kernel
theorem dX10_leftBy_18 : decode mX10_leftBy.2.1 18 = .ok (.goto (-16), 3) := by decide +kernel
theorem dX10_leftBy_21 : decode mX10_leftBy.2.1 21 = .ok (.iconst 0, 1) := by decide +kernel
theorem dX10_leftBy_22 : decode mX10_leftBy.2.1 22 = .ok (.istore_n 3, 1) := by decide +kernel
theorem dX10_leftBy_23 : decode mX10_leftBy.2.1 23 = .ok (.iconst 0, 1) := by decide +kernel
theorem dX10_leftBy_24 : decode mX10_leftBy.2.1 24 = .ok (.istore 4, 2) := by decide +kernel
theorem dX10_leftBy_26 : decode mX10_leftBy.2.1 26 = .ok (.iload 4, 2) := by decide +kernel
theorem dX10_leftBy_28 : decode mX10_leftBy.2.1 28 = .ok (.bipush 30, 2) := by decide +kernel
theorem dX10_leftBy_30 : decode mX10_leftBy.2.1 30 = .ok (.if_icmp .gt 64, 3) := by decide +kernel
theorem dX10_leftBy_33 : decode mX10_leftBy.2.1 33 = .ok (.aload_n 0, 1) := by decide +kernel
theorem dX10_leftBy_34 : decode mX10_leftBy.2.1 34 = .ok (.getfield 148, 3) := by decide +kernel
theorem dX10_leftBy_37 : decode mX10_leftBy.2.1 37 = .ok (.iload 4, 2) := by decide +kernel
theorem dX10_leftBy_39 : decode mX10_leftBy.2.1 39 = .ok (.baload, 1) := by decide +kernel
theorem dX10_leftBy_40 : decode mX10_leftBy.2.1 40 = .ok (.ifCond .ne 6, 3) := by decide +kernel
theorem dX10_leftBy_43 : decode mX10_leftBy.2.1 43 = .ok (.goto 45, 3) := by decide +kernel
theorem dX10_leftBy_46 : decode mX10_leftBy.2.1 46 = .ok (.aload_n 0, 1) := by decide +kernel
theorem dX10_leftBy_47 : decode mX10_leftBy.2.1 47 = .ok (.getfield 142, 3) := by decide +kernel
theorem dX10_leftBy_50 : decode mX10_leftBy.2.1 50 = .ok (.bipush 90, 2) := by decide +kernel
theorem dX10_leftBy_52 : decode mX10_leftBy.2.1 52 = .ok (.iload 4, 2) := by decide +kernel
theorem dX10_leftBy_54 : decode mX10_leftBy.2.1 54 = .ok (.imul, 1) := by decide +kernel
theorem dX10_leftBy_55 : decode mX10_leftBy.2.1 55 = .ok (.bipush 6, 2) := by decide +kernel
theorem dX10_leftBy_57 : decode mX10_leftBy.2.1 57 = .ok (.iload_n 1, 1) := by decide +kernel
theorem dX10_leftBy_58 : decode mX10_leftBy.2.1 58 = .ok (.imul, 1) := by decide +kernel
theorem dX10_leftBy_59 : decode mX10_leftBy.2.1 59 = .ok (.iadd, 1) := by decide +kernel
theorem dX10_leftBy_60 : decode mX10_leftBy.2.1 60 = .ok (.iload_n 2, 1) := by decide +kernel
theorem dX10_leftBy_61 : decode mX10_leftBy.2.1 61 = .ok (.iadd, 1) := by decide +kernel
theorem dX10_leftBy_62 : decode mX10_leftBy.2.1 62 = .ok (.iaload, 1) := by decide +kernel
theorem dX10_leftBy_63 : decode mX10_leftBy.2.1 63 = .ok (.istore 5, 2) := by decide +kernel
theorem dX10_leftBy_65 : decode mX10_leftBy.2.1 65 = .ok (.aload_n 0, 1) := by decide +kernel
theorem dX10_leftBy_66 : decode mX10_leftBy.2.1 66 = .ok (.getfield 145, 3) := by decide +kernel
theorem dX10_leftBy_69 : decode mX10_leftBy.2.1 69 = .ok (.iload 5, 2) := by decide +kernel
theorem dX10_leftBy_71 : decode mX10_leftBy.2.1 71 = .ok (.dup2, 1) := by decide +kernel
theorem dX10_leftBy_72 : decode mX10_leftBy.2.1 72 = .ok (.iaload, 1) := by decide +kernel
theorem dX10_leftBy_73 : decode mX10_leftBy.2.1 73 = .ok (.iconst 1, 1) := by decide +kernel
theorem dX10_leftBy_74 : decode mX10_leftBy.2.1 74 = .ok (.iadd, 1) := by decide +kernel
theorem dX10_leftBy_75 : decode mX10_leftBy.2.1 75 = .ok (.iastore, 1) := by decide +kernel
theorem dX10_leftBy_76 : decode mX10_leftBy.2.1 76 = .ok (.iload_n 3, 1) := by decide +kernel
theorem dX10_leftBy_77 : decode mX10_leftBy.2.1 77 = .ok (.aload_n 0, 1) := by decide +kernel
theorem dX10_leftBy_78 : decode mX10_leftBy.2.1 78 = .ok (.getfield 145, 3) := by decide +kernel
theorem dX10_leftBy_81 : decode mX10_leftBy.2.1 81 = .ok (.iload 5, 2) := by decide +kernel
theorem dX10_leftBy_83 : decode mX10_leftBy.2.1 83 = .ok (.iaload, 1) := by decide +kernel
theorem dX10_leftBy_84 : decode mX10_leftBy.2.1 84 = .ok (.invokestatic 462, 3) := by decide +kernel
theorem dX10_leftBy_87 : decode mX10_leftBy.2.1 87 = .ok (.istore_n 3, 1) := by decide +kernel
theorem dX10_leftBy_88 : decode mX10_leftBy.2.1 88 = .ok (.iinc 4 1, 3) := by decide +kernel
theorem dX10_leftBy_91 : decode mX10_leftBy.2.1 91 = .ok (.goto (-65), 3) := by decide +kernel
theorem dX10_leftBy_94 : decode mX10_leftBy.2.1 94 = .ok (.iload_n 3, 1) := by decide +kernel
theorem dX10_leftBy_95 : decode mX10_leftBy.2.1 95 = .ok (.ireturn, 1) := by decide +kernel
theorem bX10_leftBy_0 {E : px_E} {d : Nat} {w : pw_W} {Q : Option Value → pw_W → Prop} {t : ct_T} (hw : w.1 = cs t) {x1 x2 : Int32}  
    (k1 : px_W E mX10_leftBy (d + 2) 0 0 2 [.ref 61, .int x1, .int x2, .int 0, .null, .null] [] w Q) :
    px_W E mX10_leftBy (d + 2) 0 0 0 [.ref 61, .int x1, .int x2, .null, .null, .null] [] w Q := by
  refine px_iconst dX10_leftBy_0 ic_0 ?_
  refine px_istore_n (ls' := [.ref 61, .int x1, .int x2, .int 0, .null, .null]) dX10_leftBy_1 rfl ⟨by decide, rfl⟩ rfl ?_
  exact k1
theorem eX10_leftBy {E : px_E} {d : Nat} {w : pw_W} {Q : Option Value → pw_W → Prop} {t : ct_T} (hw : w.1 = cs t) {x1 x2 : Int32}  
    (k1 : px_W E mX10_leftBy (d + 2) 0 0 2 [.ref 61, .int x1, .int x2, .int 0, .null, .null] [] w Q) :
    px_Call E (d + 2) 0 0 mX10_leftBy [.ref 61, .int x1, .int x2] w Q :=
  px_enter (k := 3) (by decide) (Nat.le_of_ble_eq_true rfl) rfl (px_forget (bX10_leftBy_0 hw k1) ⟨Or.inr rfl, Or.inr rfl, Or.inr rfl, Or.inl rfl, Or.inl rfl, Or.inl rfl, trivial⟩)
theorem bX10_leftBy_2 {E : px_E} {d : Nat} {w : pw_W} {Q : Option Value → pw_W → Prop} {t : ct_T} (hw : w.1 = cs t) {x1 x2 x3 : Int32}  
    (k1 : 99 < x3 → px_W E mX10_leftBy (d + 2) 0 0 26 [.ref 61, .int x1, .int x2, .int 0, .int 0, .null] [] w Q)
    (k2 : ¬ 99 < x3 → px_W E mX10_leftBy (d + 2) 0 0 8 [.ref 61, .int x1, .int x2, .int x3, .null, .null] [] w Q) :
    px_W E mX10_leftBy (d + 2) 0 0 2 [.ref 61, .int x1, .int x2, .int x3, .null, .null] [] w Q := by
  refine px_iload_n dX10_leftBy_2 rfl rfl ?_
  refine px_bipush dX10_leftBy_3 bp_99 ?_
  refine px_icmp_gt (tgt := 21) dX10_leftBy_5 (by decide) (fun h1 => ?_) (fun h1 => ?_)
  ·
    refine px_iconst dX10_leftBy_21 ic_0 ?_
    refine px_istore_n (ls' := [.ref 61, .int x1, .int x2, .int 0, .null, .null]) dX10_leftBy_22 rfl ⟨by decide, rfl⟩ rfl ?_
    refine px_iconst dX10_leftBy_23 ic_0 ?_
    refine px_istore (ls' := [.ref 61, .int x1, .int x2, .int 0, .int 0, .null]) dX10_leftBy_24 ⟨by decide, rfl⟩ rfl ?_
    exact (k1 h1)
  ·
    exact (k2 h1)
theorem bX10_leftBy_8 {E : px_E} {d : Nat} {w : pw_W} {Q : Option Value → pw_W → Prop} {t : ct_T} (hw : w.1 = cs t) {x1 x2 x3 : Int32}  (j1 : Nat) (hj1 : x3 = nI j1) (hl1 : j1 < 100)
    (k1 : px_W E mX10_leftBy (d + 2) 0 0 2 [.ref 61, .int x1, .int x2, .int (x3 + 1), .null, .null] [] (pw_sI w 104 j1 0) Q) :
    px_W E mX10_leftBy (d + 2) 0 0 8 [.ref 61, .int x1, .int x2, .int x3, .null, .null] [] w Q := by
  refine px_aload_n dX10_leftBy_8 rfl rfl ?_
  refine px_getR (v := 104) dX10_leftBy_9 fr_10_145 rfl (px_sh1 hw sh_61) (px_rf hw rf_61_81) (by decide) ?_
  refine px_iload_n dX10_leftBy_12 rfl rfl ?_
  refine px_iconst dX10_leftBy_13 ic_0 ?_
  refine px_iast dX10_leftBy_14 (px_sh2 hw sh_104) (by decide) j1 hj1 hl1 (by omega) ?_
  refine px_iinc (ls' := [.ref 61, .int x1, .int x2, .int (x3 + 1), .null, .null]) dX10_leftBy_15 ⟨by decide, rfl⟩ rfl rfl rfl ?_
  refine px_goto (tgt := 2) dX10_leftBy_18 (by decide) ?_
  exact k1
theorem bX10_leftBy_26 {E : px_E} {d : Nat} {w : pw_W} {Q : Option Value → pw_W → Prop} {t : ct_T} (hw : w.1 = cs t) {x1 x2 x3 x4 : Int32}  
    (k1 : 30 < x4 → Q (some (.int x3)) w)
    (k2 : ¬ 30 < x4 → px_W E mX10_leftBy (d + 2) 0 0 33 [.ref 61, .int x1, .int x2, .int x3, .int x4, .null] [] w Q) :
    px_W E mX10_leftBy (d + 2) 0 0 26 [.ref 61, .int x1, .int x2, .int x3, .int x4, .null] [] w Q := by
  refine px_iload dX10_leftBy_26 rfl ?_
  refine px_bipush dX10_leftBy_28 bp_30 ?_
  refine px_icmp_gt (tgt := 94) dX10_leftBy_30 (by decide) (fun h1 => ?_) (fun h1 => ?_)
  ·
    refine px_iload_n dX10_leftBy_94 rfl rfl ?_
    exact px_ireturn dX10_leftBy_95 rfl rfl (k1 h1)
  ·
    exact (k2 h1)
theorem bX10_leftBy_33 {E : px_E} {d : Nat} {w : pw_W} {Q : Option Value → pw_W → Prop} {t : ct_T} (hw : w.1 = cs t) {x1 x2 x3 x4 : Int32}  (j1 : Nat) (hj1 : x4 = nI j1) (hl1 : j1 < 31)
    (k1 : ¬ (pw_I w 105 j1) = 0 → px_W E mX10_leftBy (d + 2) 0 0 46 [.ref 61, .int x1, .int x2, .int x3, .int x4, .null] [] w Q)
    (k2 : (pw_I w 105 j1) = 0 → px_W E mX10_leftBy (d + 2) 0 0 88 [.ref 61, .int x1, .int x2, .int x3, .int x4, .null] [] w Q) :
    px_W E mX10_leftBy (d + 2) 0 0 33 [.ref 61, .int x1, .int x2, .int x3, .int x4, .null] [] w Q := by
  refine px_aload_n dX10_leftBy_33 rfl rfl ?_
  refine px_getR (v := 105) dX10_leftBy_34 fr_10_148 rfl (px_sh1 hw sh_61) (px_rf hw rf_61_82) (by decide) ?_
  refine px_iload dX10_leftBy_37 rfl ?_
  refine px_zald dX10_leftBy_39 (px_sh2 hw sh_105) (by decide) j1 hj1 hl1 ?_
  refine px_if_ne (tgt := 46) dX10_leftBy_40 (by decide) (fun h1 => ?_) (fun h1 => ?_)
  ·
    exact (k1 h1)
  ·
    refine px_goto (tgt := 88) dX10_leftBy_43 (by decide) ?_
    exact (k2 h1)
theorem bX10_leftBy_46 {E : px_E} {d : Nat} {w : pw_W} {Q : Option Value → pw_W → Prop} {t : ct_T} (hw : w.1 = cs t) {x1 x2 x3 x4 : Int32}  (j1 : Nat) (hj1 : (((90 * x4) + (6 * x1)) + x2) = nI j1) (hl1 : j1 < 2790) (j2 : Nat) (hj2 : (pw_I w 103 j1) = nI j2) (hl2 : j2 < 100)
    (k1 : px_W E mX10_leftBy (d + 2) 0 0 88 [.ref 61, .int x1, .int x2, .int (hX10_greater x3 (pw_I (pw_sI w 104 j2 ((pw_I w 104 j2) + 1)) 104 j2)), .int x4, .null] [] (pw_sI w 104 j2 ((pw_I w 104 j2) + 1)) Q) :
    px_W E mX10_leftBy (d + 2) 0 0 46 [.ref 61, .int x1, .int x2, .int x3, .int x4, .null] [] w Q := by
  refine px_aload_n dX10_leftBy_46 rfl rfl ?_
  refine px_getR (v := 103) dX10_leftBy_47 fr_10_142 rfl (px_sh1 hw sh_61) (px_rf hw rf_61_80) (by decide) ?_
  refine px_bipush dX10_leftBy_50 bp_90 ?_
  refine px_iload dX10_leftBy_52 rfl ?_
  refine px_imul dX10_leftBy_54 ?_
  refine px_bipush dX10_leftBy_55 bp_6 ?_
  refine px_iload_n dX10_leftBy_57 rfl rfl ?_
  refine px_imul dX10_leftBy_58 ?_
  refine px_iadd dX10_leftBy_59 ?_
  refine px_iload_n dX10_leftBy_60 rfl rfl ?_
  refine px_iadd dX10_leftBy_61 ?_
  refine px_iald dX10_leftBy_62 (px_sh2 hw sh_103) (by decide) j1 hj1 hl1 ?_
  refine px_istore (ls' := [.ref 61, .int x1, .int x2, .int x3, .int x4, .int (pw_I w 103 j1)]) dX10_leftBy_63 ⟨by decide, rfl⟩ rfl ?_
  refine px_aload_n dX10_leftBy_65 rfl rfl ?_
  refine px_getR (v := 104) dX10_leftBy_66 fr_10_145 rfl (px_sh1 hw sh_61) (px_rf hw rf_61_81) (by decide) ?_
  refine px_iload dX10_leftBy_69 rfl ?_
  refine px_dup2 dX10_leftBy_71 rfl rfl ?_
  refine px_iald dX10_leftBy_72 (px_sh2 hw sh_104) (by decide) j2 hj2 hl2 ?_
  refine px_iconst dX10_leftBy_73 ic_1 ?_
  refine px_iadd dX10_leftBy_74 ?_
  refine px_iast dX10_leftBy_75 (px_sh2 hw sh_104) (by decide) j2 hj2 hl2 (by omega) ?_
  refine px_iload_n dX10_leftBy_76 rfl rfl ?_
  refine px_aload_n dX10_leftBy_77 rfl rfl ?_
  refine px_getR (v := 104) dX10_leftBy_78 fr_10_145 rfl (px_sh1 (hI hw) sh_61) (px_rf (hI hw) rf_61_81) (by decide) ?_
  refine px_iload dX10_leftBy_81 rfl ?_
  refine px_iald dX10_leftBy_83 (px_sh2 (hI hw) sh_104) (by decide) j2 hj2 hl2 ?_
  refine px_forget (ls' := [.ref 61, .int x1, .int x2, .null, .int x4, .null]) ?_ ⟨Or.inr rfl, Or.inr rfl, Or.inr rfl, Or.inl rfl, Or.inr rfl, Or.inl rfl, trivial⟩
  refine px_callS (As := [.int x3, .int (pw_I (pw_sI w 104 j2 ((pw_I w 104 j2) + 1)) 104 j2)]) (st := []) (rc := 0) (rs := 0) (mc := 0) (ms := 0) dX10_leftBy_84 lk_10_462 rfl rfl (Nat.le_of_ble_eq_true rfl) (sX10_greater ?_)
  show px_W E mX10_leftBy (d + 2) 0 0 87 [.ref 61, .int x1, .int x2, .null, .int x4, .null] [.int (hX10_greater x3 (pw_I (pw_sI w 104 j2 ((pw_I w 104 j2) + 1)) 104 j2))] (pw_sI w 104 j2 ((pw_I w 104 j2) + 1)) Q
  refine px_istore_n (ls' := [.ref 61, .int x1, .int x2, .int (hX10_greater x3 (pw_I (pw_sI w 104 j2 ((pw_I w 104 j2) + 1)) 104 j2)), .int x4, .null]) dX10_leftBy_87 rfl ⟨by decide, rfl⟩ rfl ?_
  exact k1
theorem bX10_leftBy_88 {E : px_E} {d : Nat} {w : pw_W} {Q : Option Value → pw_W → Prop} {t : ct_T} (hw : w.1 = cs t) {x1 x2 x3 x4 : Int32}  
    (k1 : px_W E mX10_leftBy (d + 2) 0 0 26 [.ref 61, .int x1, .int x2, .int x3, .int (x4 + 1), .null] [] w Q) :
    px_W E mX10_leftBy (d + 2) 0 0 88 [.ref 61, .int x1, .int x2, .int x3, .int x4, .null] [] w Q := by
  refine px_iinc (ls' := [.ref 61, .int x1, .int x2, .int x3, .int (x4 + 1), .null]) dX10_leftBy_88 ⟨by decide, rfl⟩ rfl rfl rfl ?_
  refine px_goto (tgt := 26) dX10_leftBy_91 (by decide) ?_
  exact k1
theorem dX10_ask_0 : decode mX10_ask.2.1 0 = .ok (.iload_n 1, 1) := by decide +kernel
theorem dX10_ask_1 : decode mX10_ask.2.1 1 = .ok (.iconst 0, 1) := by decide +kernel
theorem dX10_ask_2 : decode mX10_ask.2.1 2 = .ok (.bipush 14, 2) := by decide +kernel
theorem dX10_ask_4 : decode mX10_ask.2.1 4 = .ok (.invokestatic 440, 3) := by decide +kernel
theorem dX10_ask_7 : decode mX10_ask.2.1 7 = .ok (.ifCond .eq 20, 3) := by decide +kernel
theorem dX10_ask_10 : decode mX10_ask.2.1 10 = .ok (.iload_n 2, 1) := by decide +kernel
theorem dX10_ask_11 : decode mX10_ask.2.1 11 = .ok (.iconst 0, 1) := by decide +kernel
theorem dX10_ask_12 : decode mX10_ask.2.1 12 = .ok (.iconst 1, 1) := by decide +kernel
theorem dX10_ask_13 : decode mX10_ask.2.1 13 = .ok (.invokestatic 440, 3) := by decide +kernel
theorem dX10_ask_16 : decode mX10_ask.2.1 16 = .ok (.ifCond .eq 11, 3) := by decide +kernel
theorem dX10_ask_19 : decode mX10_ask.2.1 19 = .ok (.aload_n 0, 1) := by decide +kernel
theorem dX10_ask_20 : decode mX10_ask.2.1 20 = .ok (.iload_n 3, 1) := by decide +kernel
theorem dX10_ask_21 : decode mX10_ask.2.1 21 = .ok (.invokevirtual 558, 3) := by decide +kernel
theorem dX10_ask_24 : decode mX10_ask.2.1 24 = .ok (.ifCond .ne 5, 3) := by decide +kernel
theorem dX10_ask_27 : decode mX10_ask.2.1 27 = .ok (.iconst (-1), 1) := by decide +kernel
theorem dX10_ask_28 : decode mX10_ask.2.1 28 = .ok (.ireturn, 1) := by decide +kernel
theorem dX10_ask_29 : decode mX10_ask.2.1 29 = .ok (.iconst 0, 1) := by decide +kernel
theorem dX10_ask_30 : decode mX10_ask.2.1 30 = .ok (.istore 4, 2) := by decide +kernel
theorem dX10_ask_32 : decode mX10_ask.2.1 32 = .ok (.iconst 1, 1) := by decide +kernel
theorem dX10_ask_33 : decode mX10_ask.2.1 33 = .ok (.istore 5, 2) := by decide +kernel
theorem dX10_ask_35 : decode mX10_ask.2.1 35 = .ok (.iload 5, 2) := by decide +kernel
theorem dX10_ask_37 : decode mX10_ask.2.1 37 = .ok (.aload_n 0, 1) := by decide +kernel
theorem dX10_ask_38 : decode mX10_ask.2.1 38 = .ok (.getfield 404, 3) := by decide +kernel
theorem dX10_ask_41 : decode mX10_ask.2.1 41 = .ok (.if_icmp .ge 35, 3) := by decide +kernel
theorem dX10_ask_44 : decode mX10_ask.2.1 44 = .ok (.aload_n 0, 1) := by decide +kernel
theorem dX10_ask_45 : decode mX10_ask.2.1 45 = .ok (.iload_n 1, 1) := by decide +kernel
theorem dX10_ask_46 : decode mX10_ask.2.1 46 = .ok (.iload 5, 2) := by decide +kernel
theorem dX10_ask_48 : decode mX10_ask.2.1 48 = .ok (.invokevirtual 561, 3) := by decide +kernel
theorem dX10_ask_51 : decode mX10_ask.2.1 51 = .ok (.aload_n 0, 1) := by decide +kernel
theorem dX10_ask_52 : decode mX10_ask.2.1 52 = .ok (.iload_n 1, 1) := by decide +kernel
theorem dX10_ask_53 : decode mX10_ask.2.1 53 = .ok (.iload 4, 2) := by decide +kernel
theorem dX10_ask_55 : decode mX10_ask.2.1 55 = .ok (.invokevirtual 561, 3) := by decide +kernel
theorem dX10_ask_58 : decode mX10_ask.2.1 58 = .ok (.if_icmp .ge 8, 3) := by decide +kernel
theorem dX10_ask_61 : decode mX10_ask.2.1 61 = .ok (.iload 5, 2) := by decide +kernel
theorem dX10_ask_63 : decode mX10_ask.2.1 63 = .ok (.goto 5, 3) := by decide +kernel
theorem dX10_ask_66 : decode mX10_ask.2.1 66 = .ok (.iload 4, 2) := by decide +kernel
theorem dX10_ask_68 : decode mX10_ask.2.1 68 = .ok (.istore 4, 2) := by decide +kernel
theorem dX10_ask_70 : decode mX10_ask.2.1 70 = .ok (.iinc 5 1, 3) := by decide +kernel
theorem dX10_ask_73 : decode mX10_ask.2.1 73 = .ok (.goto (-38), 3) := by decide +kernel
theorem dX10_ask_76 : decode mX10_ask.2.1 76 = .ok (.iload_n 2, 1) := by decide +kernel
theorem dX10_ask_77 : decode mX10_ask.2.1 77 = .ok (.ifCond .ne 8, 3) := by decide +kernel
theorem dX10_ask_80 : decode mX10_ask.2.1 80 = .ok (.iload 4, 2) := by decide +kernel
theorem dX10_ask_82 : decode mX10_ask.2.1 82 = .ok (.goto 10, 3) := by decide +kernel
theorem dX10_ask_85 : decode mX10_ask.2.1 85 = .ok (.aload_n 0, 1) := by decide +kernel
theorem dX10_ask_86 : decode mX10_ask.2.1 86 = .ok (.iload_n 1, 1) := by decide +kernel
theorem dX10_ask_87 : decode mX10_ask.2.1 87 = .ok (.iload 4, 2) := by decide +kernel
theorem dX10_ask_89 : decode mX10_ask.2.1 89 = .ok (.invokevirtual 561, 3) := by decide +kernel
theorem dX10_ask_92 : decode mX10_ask.2.1 92 = .ok (.ireturn, 1) := by decide +kernel
theorem bX10_ask_0 {E : px_E} {d : Nat} {w : pw_W} {Q : Option Value → pw_W → Prop} {t : ct_T} (hw : w.1 = cs t) {x1 x2 x3 : Int32}  
    (k1 : ¬ (pX10_isIn x1 0 14) → px_W E mX10_ask (d + 2) 0 0 27 [.null, .null, .null, .null, .null, .null] [] w Q)
    (k2 : (pX10_isIn x1 0 14) → ¬ (pX10_isIn x2 0 1) → px_W E mX10_ask (d + 2) 0 0 27 [.null, .null, .null, .null, .null, .null] [] w Q)
    (k3 : (pX10_isIn x1 0 14) → (pX10_isIn x2 0 1) → px_Call E (d + 1) 0 0 mX10_layFits [.ref 61, .int x3] w (fun v w' => px_W E mX10_ask (d + 2) 0 0 24 [.ref 61, .int x1, .int x2, .null, .null, .null] (v.toList ++ []) w' Q)) :
    px_W E mX10_ask (d + 2) 0 0 0 [.ref 61, .int x1, .int x2, .int x3, .null, .null] [] w Q := by
  refine px_iload_n dX10_ask_0 rfl rfl ?_
  refine px_iconst dX10_ask_1 ic_0 ?_
  refine px_bipush dX10_ask_2 bp_14 ?_
  refine px_callS (As := [.int x1, .int 0, .int 14]) (st := []) (rc := 0) (rs := 0) (mc := 0) (ms := 0) dX10_ask_4 lk_10_440 rfl rfl (Nat.le_of_ble_eq_true rfl) (sX10_isIn ?_)
  show px_W E mX10_ask (d + 2) 0 0 7 [.ref 61, .int x1, .int x2, .int x3, .null, .null] [.int (jb (pX10_isIn x1 0 14))] w Q
  refine px_jb_eq (tgt := 27) dX10_ask_7 (by decide) (fun h1 => ?_) (fun h1 => ?_)
  ·
    exact px_forget (k1 h1) ⟨Or.inl rfl, Or.inl rfl, Or.inl rfl, Or.inl rfl, Or.inl rfl, Or.inl rfl, trivial⟩
  ·
    refine px_iload_n dX10_ask_10 rfl rfl ?_
    refine px_iconst dX10_ask_11 ic_0 ?_
    refine px_iconst dX10_ask_12 ic_1 ?_
    refine px_callS (As := [.int x2, .int 0, .int 1]) (st := []) (rc := 0) (rs := 0) (mc := 0) (ms := 0) dX10_ask_13 lk_10_440 rfl rfl (Nat.le_of_ble_eq_true rfl) (sX10_isIn ?_)
    show px_W E mX10_ask (d + 2) 0 0 16 [.ref 61, .int x1, .int x2, .int x3, .null, .null] [.int (jb (pX10_isIn x2 0 1))] w Q
    refine px_jb_eq (tgt := 27) dX10_ask_16 (by decide) (fun h2 => ?_) (fun h2 => ?_)
    ·
      exact px_forget (k2 h1 h2) ⟨Or.inl rfl, Or.inl rfl, Or.inl rfl, Or.inl rfl, Or.inl rfl, Or.inl rfl, trivial⟩
    ·
      refine px_aload_n dX10_ask_19 rfl rfl ?_
      refine px_iload_n dX10_ask_20 rfl rfl ?_
      refine px_forget (ls' := [.ref 61, .int x1, .int x2, .null, .null, .null]) ?_ ⟨Or.inr rfl, Or.inr rfl, Or.inr rfl, Or.inl rfl, Or.inl rfl, Or.inl rfl, trivial⟩
      exact px_callV (As := [.int x3]) (st := []) (rc := 0) (rs := 0) (mc := 0) (ms := 0) dX10_ask_21 lk_10_558 (px_sh1 hw sh_61) rfl rfl (Nat.le_of_ble_eq_true rfl) (k3 h1 h2)
theorem eX10_ask {E : px_E} {d : Nat} {w : pw_W} {Q : Option Value → pw_W → Prop} {t : ct_T} (hw : w.1 = cs t) {x1 x2 x3 : Int32}  
    (k1 : ¬ (pX10_isIn x1 0 14) → px_W E mX10_ask (d + 2) 0 0 27 [.null, .null, .null, .null, .null, .null] [] w Q)
    (k2 : (pX10_isIn x1 0 14) → ¬ (pX10_isIn x2 0 1) → px_W E mX10_ask (d + 2) 0 0 27 [.null, .null, .null, .null, .null, .null] [] w Q)
    (k3 : (pX10_isIn x1 0 14) → (pX10_isIn x2 0 1) → px_Call E (d + 1) 0 0 mX10_layFits [.ref 61, .int x3] w (fun v w' => px_W E mX10_ask (d + 2) 0 0 24 [.ref 61, .int x1, .int x2, .null, .null, .null] (v.toList ++ []) w' Q)) :
    px_Call E (d + 2) 0 0 mX10_ask [.ref 61, .int x1, .int x2, .int x3] w Q :=
  px_enter (k := 2) (by decide) (Nat.le_of_ble_eq_true rfl) rfl (px_forget (bX10_ask_0 hw k1 k2 k3) ⟨Or.inr rfl, Or.inr rfl, Or.inr rfl, Or.inr rfl, Or.inl rfl, Or.inl rfl, trivial⟩)
theorem bX10_ask_24 {E : px_E} {d : Nat} {w : pw_W} {Q : Option Value → pw_W → Prop} {t : ct_T} (hw : w.1 = cs t) {x1 x2 y0 : Int32}  
    (k1 : ¬ y0 = 0 → px_W E mX10_ask (d + 2) 0 0 35 [.ref 61, .int x1, .int x2, .null, .int 0, .int 1] [] w Q)
    (k2 : y0 = 0 → px_W E mX10_ask (d + 2) 0 0 27 [.null, .null, .null, .null, .null, .null] [] w Q) :
    px_W E mX10_ask (d + 2) 0 0 24 [.ref 61, .int x1, .int x2, .null, .null, .null] [.int y0] w Q := by
  refine px_if_ne (tgt := 29) dX10_ask_24 (by decide) (fun h1 => ?_) (fun h1 => ?_)
  ·
    refine px_iconst dX10_ask_29 ic_0 ?_
    refine px_istore (ls' := [.ref 61, .int x1, .int x2, .null, .int 0, .null]) dX10_ask_30 ⟨by decide, rfl⟩ rfl ?_
    refine px_iconst dX10_ask_32 ic_1 ?_
    refine px_istore (ls' := [.ref 61, .int x1, .int x2, .null, .int 0, .int 1]) dX10_ask_33 ⟨by decide, rfl⟩ rfl ?_
    exact (k1 h1)
  ·
    exact px_forget (k2 h1) ⟨Or.inl rfl, Or.inl rfl, Or.inl rfl, Or.inl rfl, Or.inl rfl, Or.inl rfl, trivial⟩
theorem bX10_ask_27 {E : px_E} {d : Nat} {w : pw_W} {Q : Option Value → pw_W → Prop} {t : ct_T} (hw : w.1 = cs t)  
    (k1 : Q (some (.int (-1))) w) :
    px_W E mX10_ask (d + 2) 0 0 27 [.null, .null, .null, .null, .null, .null] [] w Q := by
  refine px_iconst dX10_ask_27 ic_m1 ?_
  exact px_ireturn dX10_ask_28 rfl rfl k1
theorem bX10_ask_35 {E : px_E} {d : Nat} {w : pw_W} {Q : Option Value → pw_W → Prop} {t : ct_T} (hw : w.1 = cs t) {x1 x2 x4 x5 : Int32}  
    (k1 : (pw_I w 61 51) ≤ x5 → ¬ x2 = 0 → px_Call E (d + 1) 0 0 mX10_leftBy [.ref 61, .int x1, .int x4] w (fun v w' => px_W E mX10_ask (d + 2) 0 0 92 [.null, .null, .null, .null, .null, .null] (v.toList ++ []) w' Q))
    (k2 : (pw_I w 61 51) ≤ x5 → x2 = 0 → px_W E mX10_ask (d + 2) 0 0 92 [.null, .null, .null, .null, .null, .null] [.int x4] w Q)
    (k3 : ¬ (pw_I w 61 51) ≤ x5 → px_Call E (d + 1) 0 0 mX10_leftBy [.ref 61, .int x1, .int x5] w (fun v w' => px_W E mX10_ask (d + 2) 0 0 51 [.ref 61, .int x1, .int x2, .null, .int x4, .int x5] (v.toList ++ []) w' Q)) :
    px_W E mX10_ask (d + 2) 0 0 35 [.ref 61, .int x1, .int x2, .null, .int x4, .int x5] [] w Q := by
  refine px_iload dX10_ask_35 rfl ?_
  refine px_aload_n dX10_ask_37 rfl rfl ?_
  refine px_getI dX10_ask_38 fr_10_404 rfl (px_sh1 hw sh_61) ?_
  refine px_icmp_ge (tgt := 76) dX10_ask_41 (by decide) (fun h1 => ?_) (fun h1 => ?_)
  ·
    refine px_iload_n dX10_ask_76 rfl rfl ?_
    refine px_if_ne (tgt := 85) dX10_ask_77 (by decide) (fun h2 => ?_) (fun h2 => ?_)
    ·
      refine px_aload_n dX10_ask_85 rfl rfl ?_
      refine px_iload_n dX10_ask_86 rfl rfl ?_
      refine px_iload dX10_ask_87 rfl ?_
      refine px_forget (ls' := [.null, .null, .null, .null, .null, .null]) ?_ ⟨Or.inl rfl, Or.inl rfl, Or.inl rfl, Or.inl rfl, Or.inl rfl, Or.inl rfl, trivial⟩
      exact px_callV (As := [.int x1, .int x4]) (st := []) (rc := 0) (rs := 0) (mc := 0) (ms := 0) dX10_ask_89 lk_10_561 (px_sh1 hw sh_61) rfl rfl (Nat.le_of_ble_eq_true rfl) (k1 h1 h2)
    ·
      refine px_iload dX10_ask_80 rfl ?_
      refine px_goto (tgt := 92) dX10_ask_82 (by decide) ?_
      exact px_forget (k2 h1 h2) ⟨Or.inl rfl, Or.inl rfl, Or.inl rfl, Or.inl rfl, Or.inl rfl, Or.inl rfl, trivial⟩
  ·
    refine px_aload_n dX10_ask_44 rfl rfl ?_
    refine px_iload_n dX10_ask_45 rfl rfl ?_
    refine px_iload dX10_ask_46 rfl ?_
    exact px_callV (As := [.int x1, .int x5]) (st := []) (rc := 0) (rs := 0) (mc := 0) (ms := 0) dX10_ask_48 lk_10_561 (px_sh1 hw sh_61) rfl rfl (Nat.le_of_ble_eq_true rfl) (k3 h1)
theorem bX10_ask_51 {E : px_E} {d : Nat} {w : pw_W} {Q : Option Value → pw_W → Prop} {t : ct_T} (hw : w.1 = cs t) {x1 x2 x4 x5 y0 : Int32}  
    (k1 : px_Call E (d + 1) 0 0 mX10_leftBy [.ref 61, .int x1, .int x4] w (fun v w' => px_W E mX10_ask (d + 2) 0 0 58 [.ref 61, .int x1, .int x2, .null, .int x4, .int x5] (v.toList ++ [.int y0]) w' Q)) :
    px_W E mX10_ask (d + 2) 0 0 51 [.ref 61, .int x1, .int x2, .null, .int x4, .int x5] [.int y0] w Q := by
  refine px_aload_n dX10_ask_51 rfl rfl ?_
  refine px_iload_n dX10_ask_52 rfl rfl ?_
  refine px_iload dX10_ask_53 rfl ?_
  exact px_callV (As := [.int x1, .int x4]) (st := [.int y0]) (rc := 0) (rs := 0) (mc := 0) (ms := 0) dX10_ask_55 lk_10_561 (px_sh1 hw sh_61) rfl rfl (Nat.le_of_ble_eq_true rfl) k1
theorem bX10_ask_58 {E : px_E} {d : Nat} {w : pw_W} {Q : Option Value → pw_W → Prop} {t : ct_T} (hw : w.1 = cs t) {x1 x2 x4 x5 y0 y1 : Int32}  
    (k1 : y1 ≤ y0 → px_W E mX10_ask (d + 2) 0 0 68 [.ref 61, .int x1, .int x2, .null, .null, .int x5] [.int x4] w Q)
    (k2 : ¬ y1 ≤ y0 → px_W E mX10_ask (d + 2) 0 0 68 [.ref 61, .int x1, .int x2, .null, .null, .int x5] [.int x5] w Q) :
    px_W E mX10_ask (d + 2) 0 0 58 [.ref 61, .int x1, .int x2, .null, .int x4, .int x5] [.int y1, .int y0] w Q := by
  refine px_icmp_ge (tgt := 66) dX10_ask_58 (by decide) (fun h1 => ?_) (fun h1 => ?_)
  ·
    refine px_iload dX10_ask_66 rfl ?_
    exact px_forget (k1 h1) ⟨Or.inr rfl, Or.inr rfl, Or.inr rfl, Or.inl rfl, Or.inl rfl, Or.inr rfl, trivial⟩
  ·
    refine px_iload dX10_ask_61 rfl ?_
    refine px_goto (tgt := 68) dX10_ask_63 (by decide) ?_
    exact px_forget (k2 h1) ⟨Or.inr rfl, Or.inr rfl, Or.inr rfl, Or.inl rfl, Or.inl rfl, Or.inr rfl, trivial⟩
theorem bX10_ask_68 {E : px_E} {d : Nat} {w : pw_W} {Q : Option Value → pw_W → Prop} {t : ct_T} (hw : w.1 = cs t) {x1 x2 x5 y0 : Int32}  
    (k1 : px_W E mX10_ask (d + 2) 0 0 35 [.ref 61, .int x1, .int x2, .null, .int y0, .int (x5 + 1)] [] w Q) :
    px_W E mX10_ask (d + 2) 0 0 68 [.ref 61, .int x1, .int x2, .null, .null, .int x5] [.int y0] w Q := by
  refine px_istore (ls' := [.ref 61, .int x1, .int x2, .null, .int y0, .int x5]) dX10_ask_68 ⟨by decide, rfl⟩ rfl ?_
  refine px_iinc (ls' := [.ref 61, .int x1, .int x2, .null, .int y0, .int (x5 + 1)]) dX10_ask_70 ⟨by decide, rfl⟩ rfl rfl rfl ?_
  refine px_goto (tgt := 35) dX10_ask_73 (by decide) ?_
  exact k1
theorem bX10_ask_92 {E : px_E} {d : Nat} {w : pw_W} {Q : Option Value → pw_W → Prop} {t : ct_T} (hw : w.1 = cs t) {y0 : Int32}  
    (k1 : Q (some (.int y0)) w) :
    px_W E mX10_ask (d + 2) 0 0 92 [.null, .null, .null, .null, .null, .null] [.int y0] w Q := by
  exact px_ireturn dX10_ask_92 rfl rfl k1
theorem dX10_image_0 : decode mX10_image.2.1 0 = .ok (.iload_n 1, 1) := by decide +kernel
theorem dX10_image_1 : decode mX10_image.2.1 1 = .ok (.invokestatic 564, 3) := by decide +kernel
theorem dX10_image_4 : decode mX10_image.2.1 4 = .ok (.ifCond .ne 5, 3) := by decide +kernel
theorem dX10_image_7 : decode mX10_image.2.1 7 = .ok (.iconst (-1), 1) := by decide +kernel
theorem dX10_image_8 : decode mX10_image.2.1 8 = .ok (.ireturn, 1) := by decide +kernel
theorem dX10_image_9 : decode mX10_image.2.1 9 = .ok (.aload_n 0, 1) := by decide +kernel
theorem dX10_image_10 : decode mX10_image.2.1 10 = .ok (.getfield 151, 3) := by decide +kernel
theorem dX10_image_13 : decode mX10_image.2.1 13 = .ok (.iload_n 1, 1) := by decide +kernel
theorem dX10_image_14 : decode mX10_image.2.1 14 = .ok (.iconst 1, 1) := by decide +kernel
theorem dX10_image_15 : decode mX10_image.2.1 15 = .ok (.bastore, 1) := by decide +kernel
theorem dX10_image_16 : decode mX10_image.2.1 16 = .ok (.iconst 0, 1) := by decide +kernel
theorem dX10_image_17 : decode mX10_image.2.1 17 = .ok (.istore_n 2, 1) := by decide +kernel
theorem dX10_image_18 : decode mX10_image.2.1 18 = .ok (.iload_n 2, 1) := by decide +kernel
theorem dX10_image_19 : decode mX10_image.2.1 19 = .ok (.bipush 15, 2) := by decide +kernel
theorem dX10_image_21 : decode mX10_image.2.1 21 = .ok (.if_icmp .ge 26, 3) := by decide +kernel
theorem dX10_image_24 : decode mX10_image.2.1 24 = .ok (.aload_n 0, 1) := by decide +kernel
theorem dX10_image_25 : decode mX10_image.2.1 25 = .ok (.getfield 154, 3) := by decide +kernel
theorem dX10_image_28 : decode mX10_image.2.1 28 = .ok (.bipush 15, 2) := by decide +kernel
theorem dX10_image_30 : decode mX10_image.2.1 30 = .ok (.iload_n 1, 1) := by decide +kernel
theorem dX10_image_31 : decode mX10_image.2.1 31 = .ok (.imul, 1) := by decide +kernel
theorem dX10_image_32 : decode mX10_image.2.1 32 = .ok (.iload_n 2, 1) := by decide +kernel
theorem dX10_image_33 : decode mX10_image.2.1 33 = .ok (.iadd, 1) := by decide +kernel
theorem dX10_image_34 : decode mX10_image.2.1 34 = .ok (.aload_n 0, 1) := by decide +kernel
theorem dX10_image_35 : decode mX10_image.2.1 35 = .ok (.getfield 99, 3) := by decide +kernel
theorem dX10_image_38 : decode mX10_image.2.1 38 = .ok (.iload_n 2, 1) := by decide +kernel
theorem dX10_image_39 : decode mX10_image.2.1 39 = .ok (.iaload, 1) := by decide +kernel
theorem dX10_image_40 : decode mX10_image.2.1 40 = .ok (.iastore, 1) := by decide +kernel
theorem dX10_image_41 : decode mX10_image.2.1 41 = .ok (.iinc 2 1, 3) := by decide +kernel
theorem dX10_image_44 : decode mX10_image.2.1 44 = .ok (.goto (-26), 3) := by decide +kernel
theorem dX10_image_47 : decode mX10_image.2.1 47 = .ok (.aload_n 0, 1) := by decide +kernel
theorem dX10_image_48 : decode mX10_image.2.1 48 = .ok (.getfield 99, 3) := by decide +kernel
theorem dX10_image_51 : decode mX10_image.2.1 51 = .ok (.bipush 13, 2) := by decide +kernel
theorem dX10_image_53 : decode mX10_image.2.1 53 = .ok (.iaload, 1) := by decide +kernel
theorem dX10_image_54 : decode mX10_image.2.1 54 = .ok (.ireturn, 1) := by decide +kernel
theorem bX10_image_0 {E : px_E} {d : Nat} {w : pw_W} {Q : Option Value → pw_W → Prop} {t : ct_T} (hw : w.1 = cs t) {x1 : Int32}  
    (k1 : (pX10_isBox x1) → px_W E mX10_image (d + 2) 0 0 9 [.ref 61, .int x1, .null] [] w Q)
    (k2 : ¬ (pX10_isBox x1) → Q (some (.int (-1))) w) :
    px_W E mX10_image (d + 2) 0 0 0 [.ref 61, .int x1, .null] [] w Q := by
  refine px_iload_n dX10_image_0 rfl rfl ?_
  refine px_callS (As := [.int x1]) (st := []) (rc := 0) (rs := 0) (mc := 0) (ms := 0) dX10_image_1 lk_10_564 rfl rfl (Nat.le_of_ble_eq_true rfl) (sX10_isBox ?_)
  show px_W E mX10_image (d + 2) 0 0 4 [.ref 61, .int x1, .null] [.int (jb (pX10_isBox x1))] w Q
  refine px_jb_ne (tgt := 9) dX10_image_4 (by decide) (fun h1 => ?_) (fun h1 => ?_)
  ·
    exact (k1 h1)
  ·
    refine px_iconst dX10_image_7 ic_m1 ?_
    exact px_ireturn dX10_image_8 rfl rfl (k2 h1)
theorem eX10_image {E : px_E} {d : Nat} {w : pw_W} {Q : Option Value → pw_W → Prop} {t : ct_T} (hw : w.1 = cs t) {x1 : Int32}  
    (k1 : (pX10_isBox x1) → px_W E mX10_image (d + 2) 0 0 9 [.ref 61, .int x1, .null] [] w Q)
    (k2 : ¬ (pX10_isBox x1) → Q (some (.int (-1))) w) :
    px_Call E (d + 2) 0 0 mX10_image [.ref 61, .int x1] w Q :=
  px_enter (k := 1) (by decide) (Nat.le_of_ble_eq_true rfl) rfl (px_forget (bX10_image_0 hw k1 k2) ⟨Or.inr rfl, Or.inr rfl, Or.inl rfl, trivial⟩)
theorem bX10_image_9 {E : px_E} {d : Nat} {w : pw_W} {Q : Option Value → pw_W → Prop} {t : ct_T} (hw : w.1 = cs t) {x1 : Int32}  (j1 : Nat) (hj1 : x1 = nI j1) (hl1 : j1 < 3)
    (k1 : px_W E mX10_image (d + 2) 0 0 18 [.ref 61, .int x1, .int 0] [] (pw_sI w 106 j1 1) Q) :
    px_W E mX10_image (d + 2) 0 0 9 [.ref 61, .int x1, .null] [] w Q := by
  refine px_aload_n dX10_image_9 rfl rfl ?_
  refine px_getR (v := 106) dX10_image_10 fr_10_151 rfl (px_sh1 hw sh_61) (px_rf hw rf_61_83) (by decide) ?_
  refine px_iload_n dX10_image_13 rfl rfl ?_
  refine px_iconst dX10_image_14 ic_1 ?_
  refine px_zast dX10_image_15 (px_sh2 hw sh_106) (by decide) j1 hj1 hl1 (by decide) (by omega) ?_
  refine px_iconst dX10_image_16 ic_0 ?_
  refine px_istore_n (ls' := [.ref 61, .int x1, .int 0]) dX10_image_17 rfl ⟨by decide, rfl⟩ rfl ?_
  exact k1
theorem bX10_image_18 {E : px_E} {d : Nat} {w : pw_W} {Q : Option Value → pw_W → Prop} {t : ct_T} (hw : w.1 = cs t) {x1 x2 : Int32}  
    (k1 : 15 ≤ x2 → px_W E mX10_image (d + 2) 0 0 47 [.ref 61, .null, .null] [] w Q)
    (k2 : ¬ 15 ≤ x2 → px_W E mX10_image (d + 2) 0 0 24 [.ref 61, .int x1, .int x2] [] w Q) :
    px_W E mX10_image (d + 2) 0 0 18 [.ref 61, .int x1, .int x2] [] w Q := by
  refine px_iload_n dX10_image_18 rfl rfl ?_
  refine px_bipush dX10_image_19 bp_15 ?_
  refine px_icmp_ge (tgt := 47) dX10_image_21 (by decide) (fun h1 => ?_) (fun h1 => ?_)
  ·
    exact px_forget (k1 h1) ⟨Or.inr rfl, Or.inl rfl, Or.inl rfl, trivial⟩
  ·
    exact (k2 h1)
theorem bX10_image_24 {E : px_E} {d : Nat} {w : pw_W} {Q : Option Value → pw_W → Prop} {t : ct_T} (hw : w.1 = cs t) {x1 x2 : Int32}  (j1 : Nat) (hj1 : x2 = nI j1) (hl1 : j1 < 15) (j2 : Nat) (hj2 : ((15 * x1) + x2) = nI j2) (hl2 : j2 < 45)
    (k1 : px_W E mX10_image (d + 2) 0 0 18 [.ref 61, .int x1, .int (x2 + 1)] [] (pw_sI w 107 j2 (pw_I w 89 j1)) Q) :
    px_W E mX10_image (d + 2) 0 0 24 [.ref 61, .int x1, .int x2] [] w Q := by
  refine px_aload_n dX10_image_24 rfl rfl ?_
  refine px_getR (v := 107) dX10_image_25 fr_10_154 rfl (px_sh1 hw sh_61) (px_rf hw rf_61_84) (by decide) ?_
  refine px_bipush dX10_image_28 bp_15 ?_
  refine px_iload_n dX10_image_30 rfl rfl ?_
  refine px_imul dX10_image_31 ?_
  refine px_iload_n dX10_image_32 rfl rfl ?_
  refine px_iadd dX10_image_33 ?_
  refine px_aload_n dX10_image_34 rfl rfl ?_
  refine px_getR (v := 89) dX10_image_35 fr_10_99 rfl (px_sh1 hw sh_61) (px_rf hw rf_61_60) (by decide) ?_
  refine px_iload_n dX10_image_38 rfl rfl ?_
  refine px_iald dX10_image_39 (px_sh2 hw sh_89) (by decide) j1 hj1 hl1 ?_
  refine px_iast dX10_image_40 (px_sh2 hw sh_107) (by decide) j2 hj2 hl2 (by omega) ?_
  refine px_iinc (ls' := [.ref 61, .int x1, .int (x2 + 1)]) dX10_image_41 ⟨by decide, rfl⟩ rfl rfl rfl ?_
  refine px_goto (tgt := 18) dX10_image_44 (by decide) ?_
  exact k1
theorem bX10_image_47 {E : px_E} {d : Nat} {w : pw_W} {Q : Option Value → pw_W → Prop} {t : ct_T} (hw : w.1 = cs t)  
    (k1 : Q (some (.int (pw_I w 89 13))) w) :
    px_W E mX10_image (d + 2) 0 0 47 [.ref 61, .null, .null] [] w Q := by
  refine px_aload_n dX10_image_47 rfl rfl ?_
  refine px_getR (v := 89) dX10_image_48 fr_10_99 rfl (px_sh1 hw sh_61) (px_rf hw rf_61_60) (by decide) ?_
  refine px_bipush dX10_image_51 bp_13 ?_
  refine px_iald dX10_image_53 (px_sh2 hw sh_89) (by decide) 13 rfl (by decide) ?_
  exact px_ireturn dX10_image_54 rfl rfl k1
theorem dX10_back_0 : decode mX10_back.2.1 0 = .ok (.iload_n 1, 1) := by decide +kernel
theorem dX10_back_1 : decode mX10_back.2.1 1 = .ok (.invokestatic 564, 3) := by decide +kernel
theorem dX10_back_4 : decode mX10_back.2.1 4 = .ok (.ifCond .eq 12, 3) := by decide +kernel
theorem dX10_back_7 : decode mX10_back.2.1 7 = .ok (.aload_n 0, 1) := by decide +kernel
theorem dX10_back_8 : decode mX10_back.2.1 8 = .ok (.getfield 151, 3) := by decide +kernel
theorem dX10_back_11 : decode mX10_back.2.1 11 = .ok (.iload_n 1, 1) := by decide +kernel
theorem dX10_back_12 : decode mX10_back.2.1 12 = .ok (.baload, 1) := by decide +kernel
theorem dX10_back_13 : decode mX10_back.2.1 13 = .ok (.ifCond .ne 5, 3) := by decide +kernel
theorem dX10_back_16 : decode mX10_back.2.1 16 = .ok (.iconst (-1), 1) := by decide +kernel
theorem dX10_back_17 : decode mX10_back.2.1 17 = .ok (.ireturn, 1) := by decide +kernel
theorem dX10_back_18 : decode mX10_back.2.1 18 = .ok (.iconst 0, 1) := by decide +kernel
theorem dX10_back_19 : decode mX10_back.2.1 19 = .ok (.istore_n 2, 1) := by decide +kernel
theorem dX10_back_20 : decode mX10_back.2.1 20 = .ok (.iload_n 2, 1) := by decide +kernel
theorem dX10_back_21 : decode mX10_back.2.1 21 = .ok (.bipush 15, 2) := by decide +kernel
theorem dX10_back_23 : decode mX10_back.2.1 23 = .ok (.if_icmp .ge 26, 3) := by decide +kernel
theorem dX10_back_26 : decode mX10_back.2.1 26 = .ok (.aload_n 0, 1) := by decide +kernel
theorem dX10_back_27 : decode mX10_back.2.1 27 = .ok (.getfield 99, 3) := by decide +kernel
theorem dX10_back_30 : decode mX10_back.2.1 30 = .ok (.iload_n 2, 1) := by decide +kernel
theorem dX10_back_31 : decode mX10_back.2.1 31 = .ok (.aload_n 0, 1) := by decide +kernel
theorem dX10_back_32 : decode mX10_back.2.1 32 = .ok (.getfield 154, 3) := by decide +kernel
theorem dX10_back_35 : decode mX10_back.2.1 35 = .ok (.bipush 15, 2) := by decide +kernel
theorem dX10_back_37 : decode mX10_back.2.1 37 = .ok (.iload_n 1, 1) := by decide +kernel
theorem dX10_back_38 : decode mX10_back.2.1 38 = .ok (.imul, 1) := by decide +kernel
theorem dX10_back_39 : decode mX10_back.2.1 39 = .ok (.iload_n 2, 1) := by decide +kernel
theorem dX10_back_40 : decode mX10_back.2.1 40 = .ok (.iadd, 1) := by decide +kernel
theorem dX10_back_41 : decode mX10_back.2.1 41 = .ok (.iaload, 1) := by decide +kernel
theorem dX10_back_42 : decode mX10_back.2.1 42 = .ok (.iastore, 1) := by decide +kernel
theorem dX10_back_43 : decode mX10_back.2.1 43 = .ok (.iinc 2 1, 3) := by decide +kernel
theorem dX10_back_46 : decode mX10_back.2.1 46 = .ok (.goto (-26), 3) := by decide +kernel
theorem dX10_back_49 : decode mX10_back.2.1 49 = .ok (.aload_n 0, 1) := by decide +kernel
theorem dX10_back_50 : decode mX10_back.2.1 50 = .ok (.iconst 0, 1) := by decide +kernel
theorem dX10_back_51 : decode mX10_back.2.1 51 = .ok (.putfield 428, 3) := by decide +kernel
theorem dX10_back_54 : decode mX10_back.2.1 54 = .ok (.aload_n 0, 1) := by decide +kernel
theorem dX10_back_55 : decode mX10_back.2.1 55 = .ok (.iconst 0, 1) := by decide +kernel
theorem dX10_back_56 : decode mX10_back.2.1 56 = .ok (.putfield 431, 3) := by decide +kernel
theorem dX10_back_59 : decode mX10_back.2.1 59 = .ok (.aload_n 0, 1) := by decide +kernel
theorem dX10_back_60 : decode mX10_back.2.1 60 = .ok (.getfield 99, 3) := by decide +kernel
theorem dX10_back_63 : decode mX10_back.2.1 63 = .ok (.bipush 13, 2) := by decide +kernel
theorem dX10_back_65 : decode mX10_back.2.1 65 = .ok (.iaload, 1) := by decide +kernel
theorem dX10_back_66 : decode mX10_back.2.1 66 = .ok (.ireturn, 1) := by decide +kernel
theorem bX10_back_0 {E : px_E} {d : Nat} {w : pw_W} {Q : Option Value → pw_W → Prop} {t : ct_T} (hw : w.1 = cs t) {x1 : Int32}  
    (k1 : ¬ (pX10_isBox x1) → px_W E mX10_back (d + 2) 0 0 16 [.null, .null, .null] [] w Q)
    (k2 : (pX10_isBox x1) → px_W E mX10_back (d + 2) 0 0 7 [.ref 61, .int x1, .null] [] w Q) :
    px_W E mX10_back (d + 2) 0 0 0 [.ref 61, .int x1, .null] [] w Q := by
  refine px_iload_n dX10_back_0 rfl rfl ?_
  refine px_callS (As := [.int x1]) (st := []) (rc := 0) (rs := 0) (mc := 0) (ms := 0) dX10_back_1 lk_10_564 rfl rfl (Nat.le_of_ble_eq_true rfl) (sX10_isBox ?_)
  show px_W E mX10_back (d + 2) 0 0 4 [.ref 61, .int x1, .null] [.int (jb (pX10_isBox x1))] w Q
  refine px_jb_eq (tgt := 16) dX10_back_4 (by decide) (fun h1 => ?_) (fun h1 => ?_)
  ·
    exact px_forget (k1 h1) ⟨Or.inl rfl, Or.inl rfl, Or.inl rfl, trivial⟩
  ·
    exact (k2 h1)
theorem eX10_back {E : px_E} {d : Nat} {w : pw_W} {Q : Option Value → pw_W → Prop} {t : ct_T} (hw : w.1 = cs t) {x1 : Int32}  
    (k1 : ¬ (pX10_isBox x1) → px_W E mX10_back (d + 2) 0 0 16 [.null, .null, .null] [] w Q)
    (k2 : (pX10_isBox x1) → px_W E mX10_back (d + 2) 0 0 7 [.ref 61, .int x1, .null] [] w Q) :
    px_Call E (d + 2) 0 0 mX10_back [.ref 61, .int x1] w Q :=
  px_enter (k := 1) (by decide) (Nat.le_of_ble_eq_true rfl) rfl (px_forget (bX10_back_0 hw k1 k2) ⟨Or.inr rfl, Or.inr rfl, Or.inl rfl, trivial⟩)
theorem bX10_back_7 {E : px_E} {d : Nat} {w : pw_W} {Q : Option Value → pw_W → Prop} {t : ct_T} (hw : w.1 = cs t) {x1 : Int32}  (j1 : Nat) (hj1 : x1 = nI j1) (hl1 : j1 < 3)
    (k1 : ¬ (pw_I w 106 j1) = 0 → px_W E mX10_back (d + 2) 0 0 20 [.ref 61, .int x1, .int 0] [] w Q)
    (k2 : (pw_I w 106 j1) = 0 → px_W E mX10_back (d + 2) 0 0 16 [.null, .null, .null] [] w Q) :
    px_W E mX10_back (d + 2) 0 0 7 [.ref 61, .int x1, .null] [] w Q := by
  refine px_aload_n dX10_back_7 rfl rfl ?_
  refine px_getR (v := 106) dX10_back_8 fr_10_151 rfl (px_sh1 hw sh_61) (px_rf hw rf_61_83) (by decide) ?_
  refine px_iload_n dX10_back_11 rfl rfl ?_
  refine px_zald dX10_back_12 (px_sh2 hw sh_106) (by decide) j1 hj1 hl1 ?_
  refine px_if_ne (tgt := 18) dX10_back_13 (by decide) (fun h1 => ?_) (fun h1 => ?_)
  ·
    refine px_iconst dX10_back_18 ic_0 ?_
    refine px_istore_n (ls' := [.ref 61, .int x1, .int 0]) dX10_back_19 rfl ⟨by decide, rfl⟩ rfl ?_
    exact (k1 h1)
  ·
    exact px_forget (k2 h1) ⟨Or.inl rfl, Or.inl rfl, Or.inl rfl, trivial⟩
theorem bX10_back_16 {E : px_E} {d : Nat} {w : pw_W} {Q : Option Value → pw_W → Prop} {t : ct_T} (hw : w.1 = cs t)  
    (k1 : Q (some (.int (-1))) w) :
    px_W E mX10_back (d + 2) 0 0 16 [.null, .null, .null] [] w Q := by
  refine px_iconst dX10_back_16 ic_m1 ?_
  exact px_ireturn dX10_back_17 rfl rfl k1
theorem bX10_back_20 {E : px_E} {d : Nat} {w : pw_W} {Q : Option Value → pw_W → Prop} {t : ct_T} (hw : w.1 = cs t) {x1 x2 : Int32}  
    (k1 : 15 ≤ x2 → px_W E mX10_back (d + 2) 0 0 49 [.ref 61, .null, .null] [] w Q)
    (k2 : ¬ 15 ≤ x2 → px_W E mX10_back (d + 2) 0 0 26 [.ref 61, .int x1, .int x2] [] w Q) :
    px_W E mX10_back (d + 2) 0 0 20 [.ref 61, .int x1, .int x2] [] w Q := by
  refine px_iload_n dX10_back_20 rfl rfl ?_
  refine px_bipush dX10_back_21 bp_15 ?_
  refine px_icmp_ge (tgt := 49) dX10_back_23 (by decide) (fun h1 => ?_) (fun h1 => ?_)
  ·
    exact px_forget (k1 h1) ⟨Or.inr rfl, Or.inl rfl, Or.inl rfl, trivial⟩
  ·
    exact (k2 h1)
theorem bX10_back_26 {E : px_E} {d : Nat} {w : pw_W} {Q : Option Value → pw_W → Prop} {t : ct_T} (hw : w.1 = cs t) {x1 x2 : Int32}  (j1 : Nat) (hj1 : ((15 * x1) + x2) = nI j1) (hl1 : j1 < 45) (j2 : Nat) (hj2 : x2 = nI j2) (hl2 : j2 < 15)
    (k1 : px_W E mX10_back (d + 2) 0 0 20 [.ref 61, .int x1, .int (x2 + 1)] [] (pw_sI w 89 j2 (pw_I w 107 j1)) Q) :
    px_W E mX10_back (d + 2) 0 0 26 [.ref 61, .int x1, .int x2] [] w Q := by
  refine px_aload_n dX10_back_26 rfl rfl ?_
  refine px_getR (v := 89) dX10_back_27 fr_10_99 rfl (px_sh1 hw sh_61) (px_rf hw rf_61_60) (by decide) ?_
  refine px_iload_n dX10_back_30 rfl rfl ?_
  refine px_aload_n dX10_back_31 rfl rfl ?_
  refine px_getR (v := 107) dX10_back_32 fr_10_154 rfl (px_sh1 hw sh_61) (px_rf hw rf_61_84) (by decide) ?_
  refine px_bipush dX10_back_35 bp_15 ?_
  refine px_iload_n dX10_back_37 rfl rfl ?_
  refine px_imul dX10_back_38 ?_
  refine px_iload_n dX10_back_39 rfl rfl ?_
  refine px_iadd dX10_back_40 ?_
  refine px_iald dX10_back_41 (px_sh2 hw sh_107) (by decide) j1 hj1 hl1 ?_
  refine px_iast dX10_back_42 (px_sh2 hw sh_89) (by decide) j2 hj2 hl2 (by omega) ?_
  refine px_iinc (ls' := [.ref 61, .int x1, .int (x2 + 1)]) dX10_back_43 ⟨by decide, rfl⟩ rfl rfl rfl ?_
  refine px_goto (tgt := 20) dX10_back_46 (by decide) ?_
  exact k1
theorem bX10_back_49 {E : px_E} {d : Nat} {w : pw_W} {Q : Option Value → pw_W → Prop} {t : ct_T} (hw : w.1 = cs t)  
    (k1 : Q (some (.int (pw_I w 89 13))) (pw_sI (pw_sI w 61 63 0) 61 64 0)) :
    px_W E mX10_back (d + 2) 0 0 49 [.ref 61, .null, .null] [] w Q := by
  refine px_aload_n dX10_back_49 rfl rfl ?_
  refine px_iconst dX10_back_50 ic_0 ?_
  refine px_putI dX10_back_51 fl_10_428 (Or.inl rfl) rfl (px_sh1 hw sh_61) rfl rfl (by omega) ?_
  refine px_aload_n dX10_back_54 rfl rfl ?_
  refine px_iconst dX10_back_55 ic_0 ?_
  refine px_putI dX10_back_56 fl_10_431 (Or.inl rfl) rfl (px_sh1 (hI hw) sh_61) rfl rfl (by omega) ?_
  refine px_aload_n dX10_back_59 rfl rfl ?_
  refine px_getR (v := 89) dX10_back_60 fr_10_99 rfl (px_sh1 (hI (hI hw)) sh_61) (px_rf (hI (hI hw)) rf_61_60) (by decide) ?_
  refine px_bipush dX10_back_63 bp_13 ?_
  refine px_ialdv (v := (pw_I w 89 13)) dX10_back_65 (px_sh2 (hI (hI hw)) sh_89) (by decide) 13 rfl (by decide) rfl ?_
  exact px_ireturn dX10_back_66 rfl rfl k1
theorem dX10_about_0 : decode mX10_about.2.1 0 = .ok (.iload_n 1, 1) := by decide +kernel
theorem dX10_about_1 : decode mX10_about.2.1 1 = .ok (.tableswitch 159 0 14 #[75, 80, 85, 90, 98, 106, 114, 119, 124, 129, 134, 139, 144, 149, 154], 75) := by decide +kernel
theorem dX10_about_76 : decode mX10_about.2.1 76 = .ok (.aload_n 0, 1) := by decide +kernel
theorem dX10_about_77 : decode mX10_about.2.1 77 = .ok (.getfield 404, 3) := by decide +kernel
theorem dX10_about_80 : decode mX10_about.2.1 80 = .ok (.ireturn, 1) := by decide +kernel
theorem dX10_about_81 : decode mX10_about.2.1 81 = .ok (.aload_n 0, 1) := by decide +kernel
theorem dX10_about_82 : decode mX10_about.2.1 82 = .ok (.getfield 407, 3) := by decide +kernel
theorem dX10_about_85 : decode mX10_about.2.1 85 = .ok (.ireturn, 1) := by decide +kernel
theorem dX10_about_86 : decode mX10_about.2.1 86 = .ok (.aload_n 0, 1) := by decide +kernel
theorem dX10_about_87 : decode mX10_about.2.1 87 = .ok (.getfield 410, 3) := by decide +kernel
theorem dX10_about_90 : decode mX10_about.2.1 90 = .ok (.ireturn, 1) := by decide +kernel
theorem dX10_about_91 : decode mX10_about.2.1 91 = .ok (.aload_n 0, 1) := by decide +kernel
theorem dX10_about_92 : decode mX10_about.2.1 92 = .ok (.getfield 99, 3) := by decide +kernel
theorem dX10_about_95 : decode mX10_about.2.1 95 = .ok (.bipush 12, 2) := by decide +kernel
theorem dX10_about_97 : decode mX10_about.2.1 97 = .ok (.iaload, 1) := by decide +kernel
theorem dX10_about_98 : decode mX10_about.2.1 98 = .ok (.ireturn, 1) := by decide +kernel
theorem dX10_about_99 : decode mX10_about.2.1 99 = .ok (.aload_n 0, 1) := by decide +kernel
theorem dX10_about_100 : decode mX10_about.2.1 100 = .ok (.getfield 99, 3) := by decide +kernel
theorem dX10_about_103 : decode mX10_about.2.1 103 = .ok (.bipush 13, 2) := by decide +kernel
theorem dX10_about_105 : decode mX10_about.2.1 105 = .ok (.iaload, 1) := by decide +kernel
theorem dX10_about_106 : decode mX10_about.2.1 106 = .ok (.ireturn, 1) := by decide +kernel
theorem dX10_about_107 : decode mX10_about.2.1 107 = .ok (.aload_n 0, 1) := by decide +kernel
theorem dX10_about_108 : decode mX10_about.2.1 108 = .ok (.getfield 99, 3) := by decide +kernel
theorem dX10_about_111 : decode mX10_about.2.1 111 = .ok (.bipush 14, 2) := by decide +kernel
theorem dX10_about_113 : decode mX10_about.2.1 113 = .ok (.iaload, 1) := by decide +kernel
theorem dX10_about_114 : decode mX10_about.2.1 114 = .ok (.ireturn, 1) := by decide +kernel
theorem dX10_about_115 : decode mX10_about.2.1 115 = .ok (.aload_n 0, 1) := by decide +kernel
theorem dX10_about_116 : decode mX10_about.2.1 116 = .ok (.getfield 428, 3) := by decide +kernel
theorem dX10_about_119 : decode mX10_about.2.1 119 = .ok (.ireturn, 1) := by decide +kernel
theorem dX10_about_120 : decode mX10_about.2.1 120 = .ok (.aload_n 0, 1) := by decide +kernel
theorem dX10_about_121 : decode mX10_about.2.1 121 = .ok (.getfield 431, 3) := by decide +kernel
theorem dX10_about_124 : decode mX10_about.2.1 124 = .ok (.ireturn, 1) := by decide +kernel
theorem dX10_about_125 : decode mX10_about.2.1 125 = .ok (.aload_n 0, 1) := by decide +kernel
theorem dX10_about_126 : decode mX10_about.2.1 126 = .ok (.getfield 434, 3) := by decide +kernel
theorem dX10_about_129 : decode mX10_about.2.1 129 = .ok (.ireturn, 1) := by decide +kernel
theorem dX10_about_130 : decode mX10_about.2.1 130 = .ok (.aload_n 0, 1) := by decide +kernel
theorem dX10_about_131 : decode mX10_about.2.1 131 = .ok (.getfield 551, 3) := by decide +kernel
theorem dX10_about_134 : decode mX10_about.2.1 134 = .ok (.ireturn, 1) := by decide +kernel
theorem dX10_about_135 : decode mX10_about.2.1 135 = .ok (.aload_n 0, 1) := by decide +kernel
theorem dX10_about_136 : decode mX10_about.2.1 136 = .ok (.getfield 157, 3) := by decide +kernel
theorem dX10_about_139 : decode mX10_about.2.1 139 = .ok (.ireturn, 1) := by decide +kernel
theorem dX10_about_140 : decode mX10_about.2.1 140 = .ok (.aload_n 0, 1) := by decide +kernel
theorem dX10_about_141 : decode mX10_about.2.1 141 = .ok (.getfield 419, 3) := by decide +kernel
theorem dX10_about_144 : decode mX10_about.2.1 144 = .ok (.ireturn, 1) := by decide +kernel
theorem dX10_about_145 : decode mX10_about.2.1 145 = .ok (.aload_n 0, 1) := by decide +kernel
theorem dX10_about_146 : decode mX10_about.2.1 146 = .ok (.getfield 437, 3) := by decide +kernel
theorem dX10_about_149 : decode mX10_about.2.1 149 = .ok (.ireturn, 1) := by decide +kernel
theorem dX10_about_150 : decode mX10_about.2.1 150 = .ok (.aload_n 0, 1) := by decide +kernel
theorem dX10_about_151 : decode mX10_about.2.1 151 = .ok (.getfield 96, 3) := by decide +kernel
theorem dX10_about_154 : decode mX10_about.2.1 154 = .ok (.ireturn, 1) := by decide +kernel
theorem dX10_about_155 : decode mX10_about.2.1 155 = .ok (.aload_n 0, 1) := by decide +kernel
theorem dX10_about_156 : decode mX10_about.2.1 156 = .ok (.getfield 413, 3) := by decide +kernel
theorem dX10_about_159 : decode mX10_about.2.1 159 = .ok (.ireturn, 1) := by decide +kernel
theorem dX10_about_160 : decode mX10_about.2.1 160 = .ok (.iconst (-1), 1) := by decide +kernel
theorem dX10_about_161 : decode mX10_about.2.1 161 = .ok (.ireturn, 1) := by decide +kernel
theorem bX10_about_0 {E : px_E} {d : Nat} {w : pw_W} {Q : Option Value → pw_W → Prop} {t : ct_T} (hw : w.1 = cs t) {x1 : Int32}  
    (k1 : x1 = 0 → Q (some (.int (pw_I w 61 51))) w)
    (k2 : ¬ x1 = 0 → x1 = 1 → Q (some (.int (pw_I w 61 52))) w)
    (k3 : ¬ x1 = 0 → ¬ x1 = 1 → x1 = 2 → Q (some (.int (pw_I w 61 53))) w)
    (k4 : ¬ x1 = 0 → ¬ x1 = 1 → ¬ x1 = 2 → x1 = 3 → px_W E mX10_about (d + 1) 0 0 91 [.ref 61, .null] [] w Q)
    (k5 : ¬ x1 = 0 → ¬ x1 = 1 → ¬ x1 = 2 → ¬ x1 = 3 → x1 = 4 → px_W E mX10_about (d + 1) 0 0 99 [.ref 61, .null] [] w Q)
    (k6 : ¬ x1 = 0 → ¬ x1 = 1 → ¬ x1 = 2 → ¬ x1 = 3 → ¬ x1 = 4 → x1 = 5 → px_W E mX10_about (d + 1) 0 0 107 [.ref 61, .null] [] w Q)
    (k7 : ¬ x1 = 0 → ¬ x1 = 1 → ¬ x1 = 2 → ¬ x1 = 3 → ¬ x1 = 4 → ¬ x1 = 5 → x1 = 6 → Q (some (.int (pw_I w 61 63))) w)
    (k8 : ¬ x1 = 0 → ¬ x1 = 1 → ¬ x1 = 2 → ¬ x1 = 3 → ¬ x1 = 4 → ¬ x1 = 5 → ¬ x1 = 6 → x1 = 7 → Q (some (.int (pw_I w 61 64))) w)
    (k9 : ¬ x1 = 0 → ¬ x1 = 1 → ¬ x1 = 2 → ¬ x1 = 3 → ¬ x1 = 4 → ¬ x1 = 5 → ¬ x1 = 6 → ¬ x1 = 7 → x1 = 8 → Q (some (.int (pw_I w 61 78))) w)
    (k10 : ¬ x1 = 0 → ¬ x1 = 1 → ¬ x1 = 2 → ¬ x1 = 3 → ¬ x1 = 4 → ¬ x1 = 5 → ¬ x1 = 6 → ¬ x1 = 7 → ¬ x1 = 8 → x1 = 9 → Q (some (.int (pw_I w 61 79))) w)
    (k11 : ¬ x1 = 0 → ¬ x1 = 1 → ¬ x1 = 2 → ¬ x1 = 3 → ¬ x1 = 4 → ¬ x1 = 5 → ¬ x1 = 6 → ¬ x1 = 7 → ¬ x1 = 8 → ¬ x1 = 9 → x1 = 10 → Q (some (.int (pw_I w 61 1))) w)
    (k12 : ¬ x1 = 0 → ¬ x1 = 1 → ¬ x1 = 2 → ¬ x1 = 3 → ¬ x1 = 4 → ¬ x1 = 5 → ¬ x1 = 6 → ¬ x1 = 7 → ¬ x1 = 8 → ¬ x1 = 9 → ¬ x1 = 10 → x1 = 11 → Q (some (.int (pw_I w 61 21))) w)
    (k13 : ¬ x1 = 0 → ¬ x1 = 1 → ¬ x1 = 2 → ¬ x1 = 3 → ¬ x1 = 4 → ¬ x1 = 5 → ¬ x1 = 6 → ¬ x1 = 7 → ¬ x1 = 8 → ¬ x1 = 9 → ¬ x1 = 10 → ¬ x1 = 11 → x1 = 12 → Q (some (.int (pw_I w 61 68))) w)
    (k14 : ¬ x1 = 0 → ¬ x1 = 1 → ¬ x1 = 2 → ¬ x1 = 3 → ¬ x1 = 4 → ¬ x1 = 5 → ¬ x1 = 6 → ¬ x1 = 7 → ¬ x1 = 8 → ¬ x1 = 9 → ¬ x1 = 10 → ¬ x1 = 11 → ¬ x1 = 12 → x1 = 13 → Q (some (.int (pw_I w 61 54))) w)
    (k15 : ¬ x1 = 0 → ¬ x1 = 1 → ¬ x1 = 2 → ¬ x1 = 3 → ¬ x1 = 4 → ¬ x1 = 5 → ¬ x1 = 6 → ¬ x1 = 7 → ¬ x1 = 8 → ¬ x1 = 9 → ¬ x1 = 10 → ¬ x1 = 11 → ¬ x1 = 12 → ¬ x1 = 13 → x1 = 14 → Q (some (.int (pw_I w 61 55))) w)
    (k16 : ¬ x1 = 0 → ¬ x1 = 1 → ¬ x1 = 2 → ¬ x1 = 3 → ¬ x1 = 4 → ¬ x1 = 5 → ¬ x1 = 6 → ¬ x1 = 7 → ¬ x1 = 8 → ¬ x1 = 9 → ¬ x1 = 10 → ¬ x1 = 11 → ¬ x1 = 12 → ¬ x1 = 13 → ¬ x1 = 14 → Q (some (.int (-1))) w) :
    px_W E mX10_about (d + 1) 0 0 0 [.ref 61, .int x1] [] w Q := by
  refine px_iload_n dX10_about_0 rfl rfl ?_
  by_cases h1 : x1 = 0
  ·
    refine px_table (tgt := 76) dX10_about_1 75 (by rw [h1]; decide) (by decide) ?_
    refine px_aload_n dX10_about_76 rfl rfl ?_
    refine px_getI dX10_about_77 fr_10_404 rfl (px_sh1 hw sh_61) ?_
    exact px_ireturn dX10_about_80 rfl rfl (k1 h1)
  by_cases h2 : x1 = 1
  ·
    refine px_table (tgt := 81) dX10_about_1 80 (by rw [h2]; decide) (by decide) ?_
    refine px_aload_n dX10_about_81 rfl rfl ?_
    refine px_getI dX10_about_82 fr_10_407 rfl (px_sh1 hw sh_61) ?_
    exact px_ireturn dX10_about_85 rfl rfl (k2 h1 h2)
  by_cases h3 : x1 = 2
  ·
    refine px_table (tgt := 86) dX10_about_1 85 (by rw [h3]; decide) (by decide) ?_
    refine px_aload_n dX10_about_86 rfl rfl ?_
    refine px_getI dX10_about_87 fr_10_410 rfl (px_sh1 hw sh_61) ?_
    exact px_ireturn dX10_about_90 rfl rfl (k3 h1 h2 h3)
  by_cases h4 : x1 = 3
  ·
    refine px_table (tgt := 91) dX10_about_1 90 (by rw [h4]; decide) (by decide) ?_
    exact px_forget (k4 h1 h2 h3 h4) ⟨Or.inr rfl, Or.inl rfl, trivial⟩
  by_cases h5 : x1 = 4
  ·
    refine px_table (tgt := 99) dX10_about_1 98 (by rw [h5]; decide) (by decide) ?_
    exact px_forget (k5 h1 h2 h3 h4 h5) ⟨Or.inr rfl, Or.inl rfl, trivial⟩
  by_cases h6 : x1 = 5
  ·
    refine px_table (tgt := 107) dX10_about_1 106 (by rw [h6]; decide) (by decide) ?_
    exact px_forget (k6 h1 h2 h3 h4 h5 h6) ⟨Or.inr rfl, Or.inl rfl, trivial⟩
  by_cases h7 : x1 = 6
  ·
    refine px_table (tgt := 115) dX10_about_1 114 (by rw [h7]; decide) (by decide) ?_
    refine px_aload_n dX10_about_115 rfl rfl ?_
    refine px_getI dX10_about_116 fr_10_428 rfl (px_sh1 hw sh_61) ?_
    exact px_ireturn dX10_about_119 rfl rfl (k7 h1 h2 h3 h4 h5 h6 h7)
  by_cases h8 : x1 = 7
  ·
    refine px_table (tgt := 120) dX10_about_1 119 (by rw [h8]; decide) (by decide) ?_
    refine px_aload_n dX10_about_120 rfl rfl ?_
    refine px_getI dX10_about_121 fr_10_431 rfl (px_sh1 hw sh_61) ?_
    exact px_ireturn dX10_about_124 rfl rfl (k8 h1 h2 h3 h4 h5 h6 h7 h8)
  by_cases h9 : x1 = 8
  ·
    refine px_table (tgt := 125) dX10_about_1 124 (by rw [h9]; decide) (by decide) ?_
    refine px_aload_n dX10_about_125 rfl rfl ?_
    refine px_getI dX10_about_126 fr_10_434 rfl (px_sh1 hw sh_61) ?_
    exact px_ireturn dX10_about_129 rfl rfl (k9 h1 h2 h3 h4 h5 h6 h7 h8 h9)
  by_cases h10 : x1 = 9
  ·
    refine px_table (tgt := 130) dX10_about_1 129 (by rw [h10]; decide) (by decide) ?_
    refine px_aload_n dX10_about_130 rfl rfl ?_
    refine px_getI dX10_about_131 fr_10_551 rfl (px_sh1 hw sh_61) ?_
    exact px_ireturn dX10_about_134 rfl rfl (k10 h1 h2 h3 h4 h5 h6 h7 h8 h9 h10)
  by_cases h11 : x1 = 10
  ·
    refine px_table (tgt := 135) dX10_about_1 134 (by rw [h11]; decide) (by decide) ?_
    refine px_aload_n dX10_about_135 rfl rfl ?_
    refine px_getI dX10_about_136 fr_10_157 rfl (px_sh1 hw sh_61) ?_
    exact px_ireturn dX10_about_139 rfl rfl (k11 h1 h2 h3 h4 h5 h6 h7 h8 h9 h10 h11)
  by_cases h12 : x1 = 11
  ·
    refine px_table (tgt := 140) dX10_about_1 139 (by rw [h12]; decide) (by decide) ?_
    refine px_aload_n dX10_about_140 rfl rfl ?_
    refine px_getI dX10_about_141 fr_10_419 rfl (px_sh1 hw sh_61) ?_
    exact px_ireturn dX10_about_144 rfl rfl (k12 h1 h2 h3 h4 h5 h6 h7 h8 h9 h10 h11 h12)
  by_cases h13 : x1 = 12
  ·
    refine px_table (tgt := 145) dX10_about_1 144 (by rw [h13]; decide) (by decide) ?_
    refine px_aload_n dX10_about_145 rfl rfl ?_
    refine px_getI dX10_about_146 fr_10_437 rfl (px_sh1 hw sh_61) ?_
    exact px_ireturn dX10_about_149 rfl rfl (k13 h1 h2 h3 h4 h5 h6 h7 h8 h9 h10 h11 h12 h13)
  by_cases h14 : x1 = 13
  ·
    refine px_table (tgt := 150) dX10_about_1 149 (by rw [h14]; decide) (by decide) ?_
    refine px_aload_n dX10_about_150 rfl rfl ?_
    refine px_getI dX10_about_151 fr_10_96 rfl (px_sh1 hw sh_61) ?_
    exact px_ireturn dX10_about_154 rfl rfl (k14 h1 h2 h3 h4 h5 h6 h7 h8 h9 h10 h11 h12 h13 h14)
  by_cases h15 : x1 = 14
  ·
    refine px_table (tgt := 155) dX10_about_1 154 (by rw [h15]; decide) (by decide) ?_
    refine px_aload_n dX10_about_155 rfl rfl ?_
    refine px_getI dX10_about_156 fr_10_413 rfl (px_sh1 hw sh_61) ?_
    exact px_ireturn dX10_about_159 rfl rfl (k15 h1 h2 h3 h4 h5 h6 h7 h8 h9 h10 h11 h12 h13 h14 h15)
  refine px_table (tgt := 160) dX10_about_1 159 (by have a0 := lv_neT h1 (show (0 : Int32).toInt = 0 from by decide); have a1 := lv_neT h2 (show (1 : Int32).toInt = 1 from by decide); have a2 := lv_neT h3 (show (2 : Int32).toInt = 2 from by decide); have a3 := lv_neT h4 (show (3 : Int32).toInt = 3 from by decide); have a4 := lv_neT h5 (show (4 : Int32).toInt = 4 from by decide); have a5 := lv_neT h6 (show (5 : Int32).toInt = 5 from by decide); have a6 := lv_neT h7 (show (6 : Int32).toInt = 6 from by decide); have a7 := lv_neT h8 (show (7 : Int32).toInt = 7 from by decide); have a8 := lv_neT h9 (show (8 : Int32).toInt = 8 from by decide); have a9 := lv_neT h10 (show (9 : Int32).toInt = 9 from by decide); have a10 := lv_neT h11 (show (10 : Int32).toInt = 10 from by decide); have a11 := lv_neT h12 (show (11 : Int32).toInt = 11 from by decide); have a12 := lv_neT h13 (show (12 : Int32).toInt = 12 from by decide); have a13 := lv_neT h14 (show (13 : Int32).toInt = 13 from by decide); have a14 := lv_neT h15 (show (14 : Int32).toInt = 14 from by decide); rw [if_pos (by omega)]) (by decide) ?_
  refine px_iconst dX10_about_160 ic_m1 ?_
  exact px_ireturn dX10_about_161 rfl rfl (k16 h1 h2 h3 h4 h5 h6 h7 h8 h9 h10 h11 h12 h13 h14 h15)
theorem eX10_about {E : px_E} {d : Nat} {w : pw_W} {Q : Option Value → pw_W → Prop} {t : ct_T} (hw : w.1 = cs t) {x1 : Int32}  
    (k1 : x1 = 0 → Q (some (.int (pw_I w 61 51))) w)
    (k2 : ¬ x1 = 0 → x1 = 1 → Q (some (.int (pw_I w 61 52))) w)
    (k3 : ¬ x1 = 0 → ¬ x1 = 1 → x1 = 2 → Q (some (.int (pw_I w 61 53))) w)
    (k4 : ¬ x1 = 0 → ¬ x1 = 1 → ¬ x1 = 2 → x1 = 3 → px_W E mX10_about (d + 1) 0 0 91 [.ref 61, .null] [] w Q)
    (k5 : ¬ x1 = 0 → ¬ x1 = 1 → ¬ x1 = 2 → ¬ x1 = 3 → x1 = 4 → px_W E mX10_about (d + 1) 0 0 99 [.ref 61, .null] [] w Q)
    (k6 : ¬ x1 = 0 → ¬ x1 = 1 → ¬ x1 = 2 → ¬ x1 = 3 → ¬ x1 = 4 → x1 = 5 → px_W E mX10_about (d + 1) 0 0 107 [.ref 61, .null] [] w Q)
    (k7 : ¬ x1 = 0 → ¬ x1 = 1 → ¬ x1 = 2 → ¬ x1 = 3 → ¬ x1 = 4 → ¬ x1 = 5 → x1 = 6 → Q (some (.int (pw_I w 61 63))) w)
    (k8 : ¬ x1 = 0 → ¬ x1 = 1 → ¬ x1 = 2 → ¬ x1 = 3 → ¬ x1 = 4 → ¬ x1 = 5 → ¬ x1 = 6 → x1 = 7 → Q (some (.int (pw_I w 61 64))) w)
    (k9 : ¬ x1 = 0 → ¬ x1 = 1 → ¬ x1 = 2 → ¬ x1 = 3 → ¬ x1 = 4 → ¬ x1 = 5 → ¬ x1 = 6 → ¬ x1 = 7 → x1 = 8 → Q (some (.int (pw_I w 61 78))) w)
    (k10 : ¬ x1 = 0 → ¬ x1 = 1 → ¬ x1 = 2 → ¬ x1 = 3 → ¬ x1 = 4 → ¬ x1 = 5 → ¬ x1 = 6 → ¬ x1 = 7 → ¬ x1 = 8 → x1 = 9 → Q (some (.int (pw_I w 61 79))) w)
    (k11 : ¬ x1 = 0 → ¬ x1 = 1 → ¬ x1 = 2 → ¬ x1 = 3 → ¬ x1 = 4 → ¬ x1 = 5 → ¬ x1 = 6 → ¬ x1 = 7 → ¬ x1 = 8 → ¬ x1 = 9 → x1 = 10 → Q (some (.int (pw_I w 61 1))) w)
    (k12 : ¬ x1 = 0 → ¬ x1 = 1 → ¬ x1 = 2 → ¬ x1 = 3 → ¬ x1 = 4 → ¬ x1 = 5 → ¬ x1 = 6 → ¬ x1 = 7 → ¬ x1 = 8 → ¬ x1 = 9 → ¬ x1 = 10 → x1 = 11 → Q (some (.int (pw_I w 61 21))) w)
    (k13 : ¬ x1 = 0 → ¬ x1 = 1 → ¬ x1 = 2 → ¬ x1 = 3 → ¬ x1 = 4 → ¬ x1 = 5 → ¬ x1 = 6 → ¬ x1 = 7 → ¬ x1 = 8 → ¬ x1 = 9 → ¬ x1 = 10 → ¬ x1 = 11 → x1 = 12 → Q (some (.int (pw_I w 61 68))) w)
    (k14 : ¬ x1 = 0 → ¬ x1 = 1 → ¬ x1 = 2 → ¬ x1 = 3 → ¬ x1 = 4 → ¬ x1 = 5 → ¬ x1 = 6 → ¬ x1 = 7 → ¬ x1 = 8 → ¬ x1 = 9 → ¬ x1 = 10 → ¬ x1 = 11 → ¬ x1 = 12 → x1 = 13 → Q (some (.int (pw_I w 61 54))) w)
    (k15 : ¬ x1 = 0 → ¬ x1 = 1 → ¬ x1 = 2 → ¬ x1 = 3 → ¬ x1 = 4 → ¬ x1 = 5 → ¬ x1 = 6 → ¬ x1 = 7 → ¬ x1 = 8 → ¬ x1 = 9 → ¬ x1 = 10 → ¬ x1 = 11 → ¬ x1 = 12 → ¬ x1 = 13 → x1 = 14 → Q (some (.int (pw_I w 61 55))) w)
    (k16 : ¬ x1 = 0 → ¬ x1 = 1 → ¬ x1 = 2 → ¬ x1 = 3 → ¬ x1 = 4 → ¬ x1 = 5 → ¬ x1 = 6 → ¬ x1 = 7 → ¬ x1 = 8 → ¬ x1 = 9 → ¬ x1 = 10 → ¬ x1 = 11 → ¬ x1 = 12 → ¬ x1 = 13 → ¬ x1 = 14 → Q (some (.int (-1))) w) :
    px_Call E (d + 1) 0 0 mX10_about [.ref 61, .int x1] w Q :=
  px_enter (k := 0) (by decide) (Nat.le_of_ble_eq_true rfl) rfl (px_forget (bX10_about_0 hw k1 k2 k3 k4 k5 k6 k7 k8 k9 k10 k11 k12 k13 k14 k15 k16) ⟨Or.inr rfl, Or.inr rfl, trivial⟩)
theorem bX10_about_91 {E : px_E} {d : Nat} {w : pw_W} {Q : Option Value → pw_W → Prop} {t : ct_T} (hw : w.1 = cs t)  
    (k1 : Q (some (.int (pw_I w 89 12))) w) :
    px_W E mX10_about (d + 1) 0 0 91 [.ref 61, .null] [] w Q := by
  refine px_aload_n dX10_about_91 rfl rfl ?_
  refine px_getR (v := 89) dX10_about_92 fr_10_99 rfl (px_sh1 hw sh_61) (px_rf hw rf_61_60) (by decide) ?_
  refine px_bipush dX10_about_95 bp_12 ?_
  refine px_iald dX10_about_97 (px_sh2 hw sh_89) (by decide) 12 rfl (by decide) ?_
  exact px_ireturn dX10_about_98 rfl rfl k1
theorem bX10_about_99 {E : px_E} {d : Nat} {w : pw_W} {Q : Option Value → pw_W → Prop} {t : ct_T} (hw : w.1 = cs t)  
    (k1 : Q (some (.int (pw_I w 89 13))) w) :
    px_W E mX10_about (d + 1) 0 0 99 [.ref 61, .null] [] w Q := by
  refine px_aload_n dX10_about_99 rfl rfl ?_
  refine px_getR (v := 89) dX10_about_100 fr_10_99 rfl (px_sh1 hw sh_61) (px_rf hw rf_61_60) (by decide) ?_
  refine px_bipush dX10_about_103 bp_13 ?_
  refine px_iald dX10_about_105 (px_sh2 hw sh_89) (by decide) 13 rfl (by decide) ?_
  exact px_ireturn dX10_about_106 rfl rfl k1
theorem bX10_about_107 {E : px_E} {d : Nat} {w : pw_W} {Q : Option Value → pw_W → Prop} {t : ct_T} (hw : w.1 = cs t)  
    (k1 : Q (some (.int (pw_I w 89 14))) w) :
    px_W E mX10_about (d + 1) 0 0 107 [.ref 61, .null] [] w Q := by
  refine px_aload_n dX10_about_107 rfl rfl ?_
  refine px_getR (v := 89) dX10_about_108 fr_10_99 rfl (px_sh1 hw sh_61) (px_rf hw rf_61_60) (by decide) ?_
  refine px_bipush dX10_about_111 bp_14 ?_
  refine px_iald dX10_about_113 (px_sh2 hw sh_89) (by decide) 14 rfl (by decide) ?_
  exact px_ireturn dX10_about_114 rfl rfl k1
