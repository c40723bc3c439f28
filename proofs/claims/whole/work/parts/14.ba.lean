theorem dX0_companyOf_0 : decode mX0_companyOf.2.1 0 = .ok (.iconst 0, 1) := by decide +kernel
theorem dX0_companyOf_1 : decode mX0_companyOf.2.1 1 = .ok (.istore 4, 2) := by decide +kernel
theorem dX0_companyOf_3 : decode mX0_companyOf.2.1 3 = .ok (.iconst 0, 1) := by decide +kernel
theorem dX0_companyOf_4 : decode mX0_companyOf.2.1 4 = .ok (.istore 5, 2) := by decide +kernel
theorem dX0_companyOf_6 : decode mX0_companyOf.2.1 6 = .ok (.iload 5, 2) := by decide +kernel
theorem dX0_companyOf_8 : decode mX0_companyOf.2.1 8 = .ok (.aload_n 1, 1) := by decide +kernel
theorem dX0_companyOf_9 : decode mX0_companyOf.2.1 9 = .ok (.getfield 15, 3) := by decide +kernel
theorem dX0_companyOf_12 : decode mX0_companyOf.2.1 12 = .ok (.if_icmp .ge 68, 3) := by decide +kernel
theorem dX0_companyOf_15 : decode mX0_companyOf.2.1 15 = .ok (.iload_n 2, 1) := by decide +kernel
theorem dX0_companyOf_16 : decode mX0_companyOf.2.1 16 = .ok (.iload 5, 2) := by decide +kernel
theorem dX0_companyOf_18 : decode mX0_companyOf.2.1 18 = .ok (.ishr, 1) := by decide +kernel
theorem dX0_companyOf_19 : decode mX0_companyOf.2.1 19 = .ok (.iconst 1, 1) := by decide +kernel
theorem dX0_companyOf_20 : decode mX0_companyOf.2.1 20 = .ok (.iand, 1) := by decide +kernel
theorem dX0_companyOf_21 : decode mX0_companyOf.2.1 21 = .ok (.ifCond .ne 53, 3) := by decide +kernel
theorem dX0_companyOf_24 : decode mX0_companyOf.2.1 24 = .ok (.aload_n 1, 1) := by decide +kernel
theorem dX0_companyOf_25 : decode mX0_companyOf.2.1 25 = .ok (.getfield 21, 3) := by decide +kernel
theorem dX0_companyOf_28 : decode mX0_companyOf.2.1 28 = .ok (.iload 5, 2) := by decide +kernel
theorem dX0_companyOf_30 : decode mX0_companyOf.2.1 30 = .ok (.iaload, 1) := by decide +kernel
theorem dX0_companyOf_31 : decode mX0_companyOf.2.1 31 = .ok (.iload_n 3, 1) := by decide +kernel
theorem dX0_companyOf_32 : decode mX0_companyOf.2.1 32 = .ok (.if_icmp .ne 17, 3) := by decide +kernel
theorem dX0_companyOf_35 : decode mX0_companyOf.2.1 35 = .ok (.iload 4, 2) := by decide +kernel
theorem dX0_companyOf_37 : decode mX0_companyOf.2.1 37 = .ok (.iconst 1, 1) := by decide +kernel
theorem dX0_companyOf_38 : decode mX0_companyOf.2.1 38 = .ok (.aload_n 1, 1) := by decide +kernel
theorem dX0_companyOf_39 : decode mX0_companyOf.2.1 39 = .ok (.getfield 24, 3) := by decide +kernel
theorem dX0_companyOf_42 : decode mX0_companyOf.2.1 42 = .ok (.iload 5, 2) := by decide +kernel
theorem dX0_companyOf_44 : decode mX0_companyOf.2.1 44 = .ok (.iaload, 1) := by decide +kernel
theorem dX0_companyOf_45 : decode mX0_companyOf.2.1 45 = .ok (.ishl, 1) := by decide +kernel
theorem dX0_companyOf_46 : decode mX0_companyOf.2.1 46 = .ok (.ior, 1) := by decide +kernel
theorem dX0_companyOf_47 : decode mX0_companyOf.2.1 47 = .ok (.istore 4, 2) := by decide +kernel
theorem dX0_companyOf_49 : decode mX0_companyOf.2.1 49 = .ok (.aload_n 1, 1) := by decide +kernel
theorem dX0_companyOf_50 : decode mX0_companyOf.2.1 50 = .ok (.getfield 24, 3) := by decide +kernel
theorem dX0_companyOf_53 : decode mX0_companyOf.2.1 53 = .ok (.iload 5, 2) := by decide +kernel
theorem dX0_companyOf_55 : decode mX0_companyOf.2.1 55 = .ok (.iaload, 1) := by decide +kernel
theorem dX0_companyOf_56 : decode mX0_companyOf.2.1 56 = .ok (.iload_n 3, 1) := by decide +kernel
theorem dX0_companyOf_57 : decode mX0_companyOf.2.1 57 = .ok (.if_icmp .ne 17, 3) := by decide +kernel
theorem dX0_companyOf_60 : decode mX0_companyOf.2.1 60 = .ok (.iload 4, 2) := by decide +kernel
theorem dX0_companyOf_62 : decode mX0_companyOf.2.1 62 = .ok (.iconst 1, 1) := by decide +kernel
theorem dX0_companyOf_63 : decode mX0_companyOf.2.1 63 = .ok (.aload_n 1, 1) := by decide +kernel
theorem dX0_companyOf_64 : decode mX0_companyOf.2.1 64 = .ok (.getfield 21, 3) := by decide +kernel
theorem dX0_companyOf_67 : decode mX0_companyOf.2.1 67 = .ok (.iload 5, 2) := by decide +kernel
theorem dX0_companyOf_69 : decode mX0_companyOf.2.1 69 = .ok (.iaload, 1) := by decide +kernel
theorem dX0_companyOf_70 : decode mX0_companyOf.2.1 70 = .ok (.ishl, 1) := by decide +kernel
theorem dX0_companyOf_71 : decode mX0_companyOf.2.1 71 = .ok (.ior, 1) := by decide +kernel
theorem dX0_companyOf_72 : decode mX0_companyOf.2.1 72 = .ok (.istore 4, 2) := by decide +kernel
theorem dX0_companyOf_74 : decode mX0_companyOf.2.1 74 = .ok (.iinc 5 1, 3) := by decide +kernel
theorem dX0_companyOf_77 : decode mX0_companyOf.2.1 77 = .ok (.goto (-71), 3) := by decide +kernel
theorem dX0_companyOf_80 : decode mX0_companyOf.2.1 80 = .ok (.iload 4, 2) := by decide +kernel
theorem dX0_companyOf_82 : decode mX0_companyOf.2.1 82 = .ok (.ireturn, 1) := by decide +kernel
theorem bX0_companyOf_0 {E : px_E} {d : Nat} {w : pw_W} {Q : Option Value → pw_W → Prop} {t : ct_T} (hw : w.1 = cs t) {x2 x3 : Int32} {r1 : Nat} (hr1 : is_Hamlet r1) 
    (k1 : px_W E mX0_companyOf (d + 1) 0 0 6 [.null, .ref r1, .int x2, .int x3, .int 0, .int 0] [] w Q) :
    px_W E mX0_companyOf (d + 1) 0 0 0 [.null, .ref r1, .int x2, .int x3, .null, .null] [] w Q := by
  refine px_iconst dX0_companyOf_0 ic_0 ?_
  refine px_istore (ls' := [.null, .ref r1, .int x2, .int x3, .int 0, .null]) dX0_companyOf_1 ⟨by decide, rfl⟩ rfl ?_
  refine px_iconst dX0_companyOf_3 ic_0 ?_
  refine px_istore (ls' := [.null, .ref r1, .int x2, .int x3, .int 0, .int 0]) dX0_companyOf_4 ⟨by decide, rfl⟩ rfl ?_
  exact k1
theorem eX0_companyOf {E : px_E} {d : Nat} {w : pw_W} {Q : Option Value → pw_W → Prop} {t : ct_T} (hw : w.1 = cs t) {x2 x3 : Int32} {r1 : Nat} (hr1 : is_Hamlet r1) 
    (k1 : px_W E mX0_companyOf (d + 1) 0 0 6 [.null, .ref r1, .int x2, .int x3, .int 0, .int 0] [] w Q) :
    px_Call E (d + 1) 0 0 mX0_companyOf [.ref 46, .ref r1, .int x2, .int x3] w Q :=
  px_enter (k := 2) (by decide) (Nat.le_of_ble_eq_true rfl) rfl (px_forget (bX0_companyOf_0 hw hr1 k1) ⟨Or.inl rfl, Or.inr rfl, Or.inr rfl, Or.inr rfl, Or.inl rfl, Or.inl rfl, trivial⟩)
theorem bX0_companyOf_6 {E : px_E} {d : Nat} {w : pw_W} {Q : Option Value → pw_W → Prop} {t : ct_T} (hw : w.1 = cs t) {x2 x3 x4 x5 : Int32} {r1 : Nat} (hr1 : is_Hamlet r1) 
    (k1 : (pw_I w r1 4) ≤ x5 → Q (some (.int x4)) w)
    (k2 : ¬ (pw_I w r1 4) ≤ x5 → ¬ ((js_shr x2 x5) &&& 1) = 0 → px_W E mX0_companyOf (d + 1) 0 0 74 [.null, .ref r1, .int x2, .int x3, .int x4, .int x5] [] w Q)
    (k3 : ¬ (pw_I w r1 4) ≤ x5 → ((js_shr x2 x5) &&& 1) = 0 → px_W E mX0_companyOf (d + 1) 0 0 24 [.null, .ref r1, .int x2, .int x3, .int x4, .int x5] [] w Q) :
    px_W E mX0_companyOf (d + 1) 0 0 6 [.null, .ref r1, .int x2, .int x3, .int x4, .int x5] [] w Q := by
  refine px_iload dX0_companyOf_6 rfl ?_
  refine px_aload_n dX0_companyOf_8 rfl rfl ?_
  refine px_getI dX0_companyOf_9 fr_0_15 rfl (px_sh1 hw hr1.sh) ?_
  refine px_icmp_ge (tgt := 80) dX0_companyOf_12 (by decide) (fun h1 => ?_) (fun h1 => ?_)
  ·
    refine px_iload dX0_companyOf_80 rfl ?_
    exact px_ireturn dX0_companyOf_82 rfl rfl (k1 h1)
  ·
    refine px_iload_n dX0_companyOf_15 rfl rfl ?_
    refine px_iload dX0_companyOf_16 rfl ?_
    refine px_ishr dX0_companyOf_18 ?_
    refine px_iconst dX0_companyOf_19 ic_1 ?_
    refine px_iand dX0_companyOf_20 ?_
    refine px_if_ne (tgt := 74) dX0_companyOf_21 (by decide) (fun h2 => ?_) (fun h2 => ?_)
    ·
      exact (k2 h1 h2)
    ·
      exact (k3 h1 h2)
theorem bX0_companyOf_24 {E : px_E} {d : Nat} {w : pw_W} {Q : Option Value → pw_W → Prop} {t : ct_T} (hw : w.1 = cs t) {x2 x3 x4 x5 : Int32} {r1 : Nat} (hr1 : is_Hamlet r1) (j1 : Nat) (hj1 : x5 = nI j1) (hl1 : j1 < 9)
    (k1 : ¬ (pw_I w (r1 + 4) j1) = x3 → px_W E mX0_companyOf (d + 1) 0 0 49 [.null, .ref r1, .int x2, .int x3, .int x4, .int x5] [] w Q)
    (k2 : (pw_I w (r1 + 4) j1) = x3 → px_W E mX0_companyOf (d + 1) 0 0 35 [.null, .ref r1, .int x2, .int x3, .int x4, .int x5] [] w Q) :
    px_W E mX0_companyOf (d + 1) 0 0 24 [.null, .ref r1, .int x2, .int x3, .int x4, .int x5] [] w Q := by
  refine px_aload_n dX0_companyOf_24 rfl rfl ?_
  refine px_getR (v := (r1 + 4)) dX0_companyOf_25 fr_0_21 rfl (px_sh1 hw hr1.sh) (px_rf hw hr1.rf5) (Nat.succ_ne_zero _) ?_
  refine px_iload dX0_companyOf_28 rfl ?_
  refine px_iald dX0_companyOf_30 (px_sh2 hw hr1.sh4) (by decide) j1 hj1 hl1 ?_
  refine px_iload_n dX0_companyOf_31 rfl rfl ?_
  refine px_icmp_ne (tgt := 49) dX0_companyOf_32 (by decide) (fun h1 => ?_) (fun h1 => ?_)
  ·
    exact (k1 h1)
  ·
    exact (k2 h1)
theorem bX0_companyOf_35 {E : px_E} {d : Nat} {w : pw_W} {Q : Option Value → pw_W → Prop} {t : ct_T} (hw : w.1 = cs t) {x2 x3 x4 x5 : Int32} {r1 : Nat} (hr1 : is_Hamlet r1) (j1 : Nat) (hj1 : x5 = nI j1) (hl1 : j1 < 9)
    (k1 : px_W E mX0_companyOf (d + 1) 0 0 49 [.null, .ref r1, .int x2, .int x3, .int (x4 ||| (js_shl 1 (pw_I w (r1 + 5) j1))), .int x5] [] w Q) :
    px_W E mX0_companyOf (d + 1) 0 0 35 [.null, .ref r1, .int x2, .int x3, .int x4, .int x5] [] w Q := by
  refine px_iload dX0_companyOf_35 rfl ?_
  refine px_iconst dX0_companyOf_37 ic_1 ?_
  refine px_aload_n dX0_companyOf_38 rfl rfl ?_
  refine px_getR (v := (r1 + 5)) dX0_companyOf_39 fr_0_24 rfl (px_sh1 hw hr1.sh) (px_rf hw hr1.rf6) (Nat.succ_ne_zero _) ?_
  refine px_iload dX0_companyOf_42 rfl ?_
  refine px_iald dX0_companyOf_44 (px_sh2 hw hr1.sh5) (by decide) j1 hj1 hl1 ?_
  refine px_ishl dX0_companyOf_45 ?_
  refine px_ior dX0_companyOf_46 ?_
  refine px_istore (ls' := [.null, .ref r1, .int x2, .int x3, .int (x4 ||| (js_shl 1 (pw_I w (r1 + 5) j1))), .int x5]) dX0_companyOf_47 ⟨by decide, rfl⟩ rfl ?_
  exact k1
theorem bX0_companyOf_49 {E : px_E} {d : Nat} {w : pw_W} {Q : Option Value → pw_W → Prop} {t : ct_T} (hw : w.1 = cs t) {x2 x3 x4 x5 : Int32} {r1 : Nat} (hr1 : is_Hamlet r1) (j1 : Nat) (hj1 : x5 = nI j1) (hl1 : j1 < 9)
    (k1 : ¬ (pw_I w (r1 + 5) j1) = x3 → px_W E mX0_companyOf (d + 1) 0 0 74 [.null, .ref r1, .int x2, .int x3, .int x4, .int x5] [] w Q)
    (k2 : (pw_I w (r1 + 5) j1) = x3 → px_W E mX0_companyOf (d + 1) 0 0 60 [.null, .ref r1, .int x2, .int x3, .int x4, .int x5] [] w Q) :
    px_W E mX0_companyOf (d + 1) 0 0 49 [.null, .ref r1, .int x2, .int x3, .int x4, .int x5] [] w Q := by
  refine px_aload_n dX0_companyOf_49 rfl rfl ?_
  refine px_getR (v := (r1 + 5)) dX0_companyOf_50 fr_0_24 rfl (px_sh1 hw hr1.sh) (px_rf hw hr1.rf6) (Nat.succ_ne_zero _) ?_
  refine px_iload dX0_companyOf_53 rfl ?_
  refine px_iald dX0_companyOf_55 (px_sh2 hw hr1.sh5) (by decide) j1 hj1 hl1 ?_
  refine px_iload_n dX0_companyOf_56 rfl rfl ?_
  refine px_icmp_ne (tgt := 74) dX0_companyOf_57 (by decide) (fun h1 => ?_) (fun h1 => ?_)
  ·
    exact (k1 h1)
  ·
    exact (k2 h1)
theorem bX0_companyOf_60 {E : px_E} {d : Nat} {w : pw_W} {Q : Option Value → pw_W → Prop} {t : ct_T} (hw : w.1 = cs t) {x2 x3 x4 x5 : Int32} {r1 : Nat} (hr1 : is_Hamlet r1) (j1 : Nat) (hj1 : x5 = nI j1) (hl1 : j1 < 9)
    (k1 : px_W E mX0_companyOf (d + 1) 0 0 74 [.null, .ref r1, .int x2, .int x3, .int (x4 ||| (js_shl 1 (pw_I w (r1 + 4) j1))), .int x5] [] w Q) :
    px_W E mX0_companyOf (d + 1) 0 0 60 [.null, .ref r1, .int x2, .int x3, .int x4, .int x5] [] w Q := by
  refine px_iload dX0_companyOf_60 rfl ?_
  refine px_iconst dX0_companyOf_62 ic_1 ?_
  refine px_aload_n dX0_companyOf_63 rfl rfl ?_
  refine px_getR (v := (r1 + 4)) dX0_companyOf_64 fr_0_21 rfl (px_sh1 hw hr1.sh) (px_rf hw hr1.rf5) (Nat.succ_ne_zero _) ?_
  refine px_iload dX0_companyOf_67 rfl ?_
  refine px_iald dX0_companyOf_69 (px_sh2 hw hr1.sh4) (by decide) j1 hj1 hl1 ?_
  refine px_ishl dX0_companyOf_70 ?_
  refine px_ior dX0_companyOf_71 ?_
  refine px_istore (ls' := [.null, .ref r1, .int x2, .int x3, .int (x4 ||| (js_shl 1 (pw_I w (r1 + 4) j1))), .int x5]) dX0_companyOf_72 ⟨by decide, rfl⟩ rfl ?_
  exact k1
theorem bX0_companyOf_74 {E : px_E} {d : Nat} {w : pw_W} {Q : Option Value → pw_W → Prop} {t : ct_T} (hw : w.1 = cs t) {x2 x3 x4 x5 : Int32} {r1 : Nat} (hr1 : is_Hamlet r1) 
    (k1 : px_W E mX0_companyOf (d + 1) 0 0 6 [.null, .ref r1, .int x2, .int x3, .int x4, .int (x5 + 1)] [] w Q) :
    px_W E mX0_companyOf (d + 1) 0 0 74 [.null, .ref r1, .int x2, .int x3, .int x4, .int x5] [] w Q := by
  refine px_iinc (ls' := [.null, .ref r1, .int x2, .int x3, .int x4, .int (x5 + 1)]) dX0_companyOf_74 ⟨by decide, rfl⟩ rfl rfl rfl ?_
  refine px_goto (tgt := 6) dX0_companyOf_77 (by decide) ?_
  exact k1
theorem dX0_stepsBetween_0 : decode mX0_stepsBetween.2.1 0 = .ok (.iconst 1, 1) := by decide +kernel
theorem dX0_stepsBetween_1 : decode mX0_stepsBetween.2.1 1 = .ok (.iload_n 3, 1) := by decide +kernel
theorem dX0_stepsBetween_2 : decode mX0_stepsBetween.2.1 2 = .ok (.ishl, 1) := by decide +kernel
theorem dX0_stepsBetween_3 : decode mX0_stepsBetween.2.1 3 = .ok (.istore 5, 2) := by decide +kernel
theorem dX0_stepsBetween_5 : decode mX0_stepsBetween.2.1 5 = .ok (.iconst 0, 1) := by decide +kernel
theorem dX0_stepsBetween_6 : decode mX0_stepsBetween.2.1 6 = .ok (.istore 6, 2) := by decide +kernel
theorem dX0_stepsBetween_8 : decode mX0_stepsBetween.2.1 8 = .ok (.iload 6, 2) := by decide +kernel
theorem dX0_stepsBetween_10 : decode mX0_stepsBetween.2.1 10 = .ok (.aload_n 1, 1) := by decide +kernel
theorem dX0_stepsBetween_11 : decode mX0_stepsBetween.2.1 11 = .ok (.getfield 27, 3) := by decide +kernel
theorem dX0_stepsBetween_14 : decode mX0_stepsBetween.2.1 14 = .ok (.if_icmp .ge 73, 3) := by decide +kernel
theorem dX0_stepsBetween_17 : decode mX0_stepsBetween.2.1 17 = .ok (.iload 5, 2) := by decide +kernel
theorem dX0_stepsBetween_19 : decode mX0_stepsBetween.2.1 19 = .ok (.iload 4, 2) := by decide +kernel
theorem dX0_stepsBetween_21 : decode mX0_stepsBetween.2.1 21 = .ok (.ishr, 1) := by decide +kernel
theorem dX0_stepsBetween_22 : decode mX0_stepsBetween.2.1 22 = .ok (.iconst 1, 1) := by decide +kernel
theorem dX0_stepsBetween_23 : decode mX0_stepsBetween.2.1 23 = .ok (.iand, 1) := by decide +kernel
theorem dX0_stepsBetween_24 : decode mX0_stepsBetween.2.1 24 = .ok (.iconst 1, 1) := by decide +kernel
theorem dX0_stepsBetween_25 : decode mX0_stepsBetween.2.1 25 = .ok (.if_icmp .ne 6, 3) := by decide +kernel
theorem dX0_stepsBetween_28 : decode mX0_stepsBetween.2.1 28 = .ok (.iload 6, 2) := by decide +kernel
theorem dX0_stepsBetween_30 : decode mX0_stepsBetween.2.1 30 = .ok (.ireturn, 1) := by decide +kernel
theorem dX0_stepsBetween_31 : decode mX0_stepsBetween.2.1 31 = .ok (.iload 5, 2) := by decide +kernel
theorem dX0_stepsBetween_33 : decode mX0_stepsBetween.2.1 33 = .ok (.istore 7, 2) := by decide +kernel
theorem dX0_stepsBetween_35 : decode mX0_stepsBetween.2.1 35 = .ok (.iconst 0, 1) := by decide +kernel
theorem dX0_stepsBetween_36 : decode mX0_stepsBetween.2.1 36 = .ok (.istore 8, 2) := by decide +kernel
theorem dX0_stepsBetween_38 : decode mX0_stepsBetween.2.1 38 = .ok (.iload 8, 2) := by decide +kernel
theorem dX0_stepsBetween_40 : decode mX0_stepsBetween.2.1 40 = .ok (.aload_n 1, 1) := by decide +kernel
theorem dX0_stepsBetween_41 : decode mX0_stepsBetween.2.1 41 = .ok (.getfield 27, 3) := by decide +kernel
theorem dX0_stepsBetween_44 : decode mX0_stepsBetween.2.1 44 = .ok (.if_icmp .ge 33, 3) := by decide +kernel
theorem dX0_stepsBetween_47 : decode mX0_stepsBetween.2.1 47 = .ok (.iload 5, 2) := by decide +kernel
theorem dX0_stepsBetween_49 : decode mX0_stepsBetween.2.1 49 = .ok (.iload 8, 2) := by decide +kernel
theorem dX0_stepsBetween_51 : decode mX0_stepsBetween.2.1 51 = .ok (.ishr, 1) := by decide +kernel
theorem dX0_stepsBetween_52 : decode mX0_stepsBetween.2.1 52 = .ok (.iconst 1, 1) := by decide +kernel
theorem dX0_stepsBetween_53 : decode mX0_stepsBetween.2.1 53 = .ok (.iand, 1) := by decide +kernel
theorem dX0_stepsBetween_54 : decode mX0_stepsBetween.2.1 54 = .ok (.iconst 1, 1) := by decide +kernel
theorem dX0_stepsBetween_55 : decode mX0_stepsBetween.2.1 55 = .ok (.if_icmp .ne 16, 3) := by decide +kernel
theorem dX0_stepsBetween_58 : decode mX0_stepsBetween.2.1 58 = .ok (.iload 7, 2) := by decide +kernel
theorem dX0_stepsBetween_60 : decode mX0_stepsBetween.2.1 60 = .ok (.aload_n 0, 1) := by decide +kernel
theorem dX0_stepsBetween_61 : decode mX0_stepsBetween.2.1 61 = .ok (.aload_n 1, 1) := by decide +kernel
theorem dX0_stepsBetween_62 : decode mX0_stepsBetween.2.1 62 = .ok (.iload_n 2, 1) := by decide +kernel
theorem dX0_stepsBetween_63 : decode mX0_stepsBetween.2.1 63 = .ok (.iload 8, 2) := by decide +kernel
theorem dX0_stepsBetween_65 : decode mX0_stepsBetween.2.1 65 = .ok (.invokevirtual 30, 3) := by decide +kernel
theorem dX0_stepsBetween_68 : decode mX0_stepsBetween.2.1 68 = .ok (.ior, 1) := by decide +kernel
theorem dX0_stepsBetween_69 : decode mX0_stepsBetween.2.1 69 = .ok (.istore 7, 2) := by decide +kernel
theorem dX0_stepsBetween_71 : decode mX0_stepsBetween.2.1 71 = .ok (.iinc 8 1, 3) := by decide +kernel
theorem dX0_stepsBetween_74 : decode mX0_stepsBetween.2.1 74 = .ok (.goto (-36), 3) := by decide +kernel
theorem dX0_stepsBetween_77 : decode mX0_stepsBetween.2.1 77 = .ok (.iload 7, 2) := by decide +kernel
theorem dX0_stepsBetween_79 : decode mX0_stepsBetween.2.1 79 = .ok (.istore 5, 2) := by decide +kernel
theorem dX0_stepsBetween_81 : decode mX0_stepsBetween.2.1 81 = .ok (.iinc 6 1, 3) := by decide +kernel
theorem dX0_stepsBetween_84 : decode mX0_stepsBetween.2.1 84 = .ok (.goto (-76), 3) := by decide +kernel
theorem dX0_stepsBetween_87 : decode mX0_stepsBetween.2.1 87 = .ok (.iconst (-1), 1) := by decide +kernel
theorem dX0_stepsBetween_88 : decode mX0_stepsBetween.2.1 88 = .ok (.ireturn, 1) := by decide +kernel
theorem bX0_stepsBetween_0 {E : px_E} {d : Nat} {w : pw_W} {Q : Option Value → pw_W → Prop} {t : ct_T} (hw : w.1 = cs t) {x2 x3 x4 : Int32} {r1 : Nat} (hr1 : is_Hamlet r1) 
    (k1 : px_W E mX0_stepsBetween (d + 1) 0 0 8 [.ref 46, .ref r1, .int x2, .null, .int x4, .int (js_shl 1 x3), .int 0, .null, .null] [] w Q) :
    px_W E mX0_stepsBetween (d + 1) 0 0 0 [.ref 46, .ref r1, .int x2, .int x3, .int x4, .null, .null, .null, .null] [] w Q := by
  refine px_iconst dX0_stepsBetween_0 ic_1 ?_
  refine px_iload_n dX0_stepsBetween_1 rfl rfl ?_
  refine px_ishl dX0_stepsBetween_2 ?_
  refine px_istore (ls' := [.ref 46, .ref r1, .int x2, .int x3, .int x4, .int (js_shl 1 x3), .null, .null, .null]) dX0_stepsBetween_3 ⟨by decide, rfl⟩ rfl ?_
  refine px_iconst dX0_stepsBetween_5 ic_0 ?_
  refine px_istore (ls' := [.ref 46, .ref r1, .int x2, .int x3, .int x4, .int (js_shl 1 x3), .int 0, .null, .null]) dX0_stepsBetween_6 ⟨by decide, rfl⟩ rfl ?_
  exact px_forget k1 ⟨Or.inr rfl, Or.inr rfl, Or.inr rfl, Or.inl rfl, Or.inr rfl, Or.inr rfl, Or.inr rfl, Or.inl rfl, Or.inl rfl, trivial⟩
theorem eX0_stepsBetween {E : px_E} {d : Nat} {w : pw_W} {Q : Option Value → pw_W → Prop} {t : ct_T} (hw : w.1 = cs t) {x2 x3 x4 : Int32} {r1 : Nat} (hr1 : is_Hamlet r1) 
    (k1 : px_W E mX0_stepsBetween (d + 1) 0 0 8 [.ref 46, .ref r1, .int x2, .null, .int x4, .int (js_shl 1 x3), .int 0, .null, .null] [] w Q) :
    px_Call E (d + 1) 0 0 mX0_stepsBetween [.ref 46, .ref r1, .int x2, .int x3, .int x4] w Q :=
  px_enter (k := 4) (by decide) (Nat.le_of_ble_eq_true rfl) rfl (px_forget (bX0_stepsBetween_0 hw hr1 k1) ⟨Or.inr rfl, Or.inr rfl, Or.inr rfl, Or.inr rfl, Or.inr rfl, Or.inl rfl, Or.inl rfl, Or.inl rfl, Or.inl rfl, trivial⟩)
theorem bX0_stepsBetween_8 {E : px_E} {d : Nat} {w : pw_W} {Q : Option Value → pw_W → Prop} {t : ct_T} (hw : w.1 = cs t) {x2 x4 x5 x6 : Int32} {r1 : Nat} (hr1 : is_Hamlet r1) 
    (k1 : (pw_I w r1 0) ≤ x6 → Q (some (.int (-1))) w)
    (k2 : ¬ (pw_I w r1 0) ≤ x6 → ¬ ((js_shr x5 x4) &&& 1) = 1 → px_W E mX0_stepsBetween (d + 1) 0 0 38 [.ref 46, .ref r1, .int x2, .null, .int x4, .int x5, .int x6, .int x5, .int 0] [] w Q)
    (k3 : ¬ (pw_I w r1 0) ≤ x6 → ((js_shr x5 x4) &&& 1) = 1 → Q (some (.int x6)) w) :
    px_W E mX0_stepsBetween (d + 1) 0 0 8 [.ref 46, .ref r1, .int x2, .null, .int x4, .int x5, .int x6, .null, .null] [] w Q := by
  refine px_iload dX0_stepsBetween_8 rfl ?_
  refine px_aload_n dX0_stepsBetween_10 rfl rfl ?_
  refine px_getI dX0_stepsBetween_11 fr_0_27 rfl (px_sh1 hw hr1.sh) ?_
  refine px_icmp_ge (tgt := 87) dX0_stepsBetween_14 (by decide) (fun h1 => ?_) (fun h1 => ?_)
  ·
    refine px_iconst dX0_stepsBetween_87 ic_m1 ?_
    exact px_ireturn dX0_stepsBetween_88 rfl rfl (k1 h1)
  ·
    refine px_iload dX0_stepsBetween_17 rfl ?_
    refine px_iload dX0_stepsBetween_19 rfl ?_
    refine px_ishr dX0_stepsBetween_21 ?_
    refine px_iconst dX0_stepsBetween_22 ic_1 ?_
    refine px_iand dX0_stepsBetween_23 ?_
    refine px_iconst dX0_stepsBetween_24 ic_1 ?_
    refine px_icmp_ne (tgt := 31) dX0_stepsBetween_25 (by decide) (fun h2 => ?_) (fun h2 => ?_)
    ·
      refine px_iload dX0_stepsBetween_31 rfl ?_
      refine px_istore (ls' := [.ref 46, .ref r1, .int x2, .null, .int x4, .int x5, .int x6, .int x5, .null]) dX0_stepsBetween_33 ⟨by decide, rfl⟩ rfl ?_
      refine px_iconst dX0_stepsBetween_35 ic_0 ?_
      refine px_istore (ls' := [.ref 46, .ref r1, .int x2, .null, .int x4, .int x5, .int x6, .int x5, .int 0]) dX0_stepsBetween_36 ⟨by decide, rfl⟩ rfl ?_
      exact (k2 h1 h2)
    ·
      refine px_iload dX0_stepsBetween_28 rfl ?_
      exact px_ireturn dX0_stepsBetween_30 rfl rfl (k3 h1 h2)
theorem bX0_stepsBetween_38 {E : px_E} {d : Nat} {w : pw_W} {Q : Option Value → pw_W → Prop} {t : ct_T} (hw : w.1 = cs t) {x2 x4 x5 x6 x7 x8 : Int32} {r1 : Nat} (hr1 : is_Hamlet r1) 
    (k1 : (pw_I w r1 0) ≤ x8 → px_W E mX0_stepsBetween (d + 1) 0 0 8 [.ref 46, .ref r1, .int x2, .null, .int x4, .int x7, .int (x6 + 1), .null, .null] [] w Q)
    (k2 : ¬ (pw_I w r1 0) ≤ x8 → ¬ ((js_shr x5 x8) &&& 1) = 1 → px_W E mX0_stepsBetween (d + 1) 0 0 71 [.ref 46, .ref r1, .int x2, .null, .int x4, .int x5, .int x6, .int x7, .int x8] [] w Q)
    (k3 : ¬ (pw_I w r1 0) ≤ x8 → ((js_shr x5 x8) &&& 1) = 1 → px_Call E d 0 0 mX0_companyOf [.ref 46, .ref r1, .int x2, .int x8] w (fun v w' => px_W E mX0_stepsBetween (d + 1) 0 0 68 [.ref 46, .ref r1, .int x2, .null, .int x4, .int x5, .int x6, .null, .int x8] (v.toList ++ [.int x7]) w' Q)) :
    px_W E mX0_stepsBetween (d + 1) 0 0 38 [.ref 46, .ref r1, .int x2, .null, .int x4, .int x5, .int x6, .int x7, .int x8] [] w Q := by
  refine px_iload dX0_stepsBetween_38 rfl ?_
  refine px_aload_n dX0_stepsBetween_40 rfl rfl ?_
  refine px_getI dX0_stepsBetween_41 fr_0_27 rfl (px_sh1 hw hr1.sh) ?_
  refine px_icmp_ge (tgt := 77) dX0_stepsBetween_44 (by decide) (fun h1 => ?_) (fun h1 => ?_)
  ·
    refine px_iload dX0_stepsBetween_77 rfl ?_
    refine px_istore (ls' := [.ref 46, .ref r1, .int x2, .null, .int x4, .int x7, .int x6, .int x7, .int x8]) dX0_stepsBetween_79 ⟨by decide, rfl⟩ rfl ?_
    refine px_iinc (ls' := [.ref 46, .ref r1, .int x2, .null, .int x4, .int x7, .int (x6 + 1), .int x7, .int x8]) dX0_stepsBetween_81 ⟨by decide, rfl⟩ rfl rfl rfl ?_
    refine px_goto (tgt := 8) dX0_stepsBetween_84 (by decide) ?_
    exact px_forget (k1 h1) ⟨Or.inr rfl, Or.inr rfl, Or.inr rfl, Or.inl rfl, Or.inr rfl, Or.inr rfl, Or.inr rfl, Or.inl rfl, Or.inl rfl, trivial⟩
  ·
    refine px_iload dX0_stepsBetween_47 rfl ?_
    refine px_iload dX0_stepsBetween_49 rfl ?_
    refine px_ishr dX0_stepsBetween_51 ?_
    refine px_iconst dX0_stepsBetween_52 ic_1 ?_
    refine px_iand dX0_stepsBetween_53 ?_
    refine px_iconst dX0_stepsBetween_54 ic_1 ?_
    refine px_icmp_ne (tgt := 71) dX0_stepsBetween_55 (by decide) (fun h2 => ?_) (fun h2 => ?_)
    ·
      exact (k2 h1 h2)
    ·
      refine px_iload dX0_stepsBetween_58 rfl ?_
      refine px_aload_n dX0_stepsBetween_60 rfl rfl ?_
      refine px_aload_n dX0_stepsBetween_61 rfl rfl ?_
      refine px_iload_n dX0_stepsBetween_62 rfl rfl ?_
      refine px_iload dX0_stepsBetween_63 rfl ?_
      refine px_forget (ls' := [.ref 46, .ref r1, .int x2, .null, .int x4, .int x5, .int x6, .null, .int x8]) ?_ ⟨Or.inr rfl, Or.inr rfl, Or.inr rfl, Or.inl rfl, Or.inr rfl, Or.inr rfl, Or.inr rfl, Or.inl rfl, Or.inr rfl, trivial⟩
      exact px_callV (As := [.ref r1, .int x2, .int x8]) (st := [.int x7]) (rc := 0) (rs := 0) (mc := 0) (ms := 0) dX0_stepsBetween_65 lk_0_30 (px_sh1 hw sh_46) rfl rfl (Nat.le_of_ble_eq_true rfl) (k3 h1 h2)
theorem bX0_stepsBetween_68 {E : px_E} {d : Nat} {w : pw_W} {Q : Option Value → pw_W → Prop} {t : ct_T} (hw : w.1 = cs t) {x2 x4 x5 x6 x8 y0 y1 : Int32} {r1 : Nat} (hr1 : is_Hamlet r1) 
    (k1 : px_W E mX0_stepsBetween (d + 1) 0 0 71 [.ref 46, .ref r1, .int x2, .null, .int x4, .int x5, .int x6, .int (y0 ||| y1), .int x8] [] w Q) :
    px_W E mX0_stepsBetween (d + 1) 0 0 68 [.ref 46, .ref r1, .int x2, .null, .int x4, .int x5, .int x6, .null, .int x8] [.int y1, .int y0] w Q := by
  refine px_ior dX0_stepsBetween_68 ?_
  refine px_istore (ls' := [.ref 46, .ref r1, .int x2, .null, .int x4, .int x5, .int x6, .int (y0 ||| y1), .int x8]) dX0_stepsBetween_69 ⟨by decide, rfl⟩ rfl ?_
  exact k1
theorem bX0_stepsBetween_71 {E : px_E} {d : Nat} {w : pw_W} {Q : Option Value → pw_W → Prop} {t : ct_T} (hw : w.1 = cs t) {x2 x4 x5 x6 x7 x8 : Int32} {r1 : Nat} (hr1 : is_Hamlet r1) 
    (k1 : px_W E mX0_stepsBetween (d + 1) 0 0 38 [.ref 46, .ref r1, .int x2, .null, .int x4, .int x5, .int x6, .int x7, .int (x8 + 1)] [] w Q) :
    px_W E mX0_stepsBetween (d + 1) 0 0 71 [.ref 46, .ref r1, .int x2, .null, .int x4, .int x5, .int x6, .int x7, .int x8] [] w Q := by
  refine px_iinc (ls' := [.ref 46, .ref r1, .int x2, .null, .int x4, .int x5, .int x6, .int x7, .int (x8 + 1)]) dX0_stepsBetween_71 ⟨by decide, rfl⟩ rfl rfl rfl ?_
  refine px_goto (tgt := 38) dX0_stepsBetween_74 (by decide) ?_
  exact k1
theorem dX0_fewestGroups_0 : decode mX0_fewestGroups.2.1 0 = .ok (.iconst 0, 1) := by decide +kernel
theorem dX0_fewestGroups_1 : decode mX0_fewestGroups.2.1 1 = .ok (.istore 4, 2) := by decide +kernel
theorem dX0_fewestGroups_3 : decode mX0_fewestGroups.2.1 3 = .ok (.iload 4, 2) := by decide +kernel
theorem dX0_fewestGroups_5 : decode mX0_fewestGroups.2.1 5 = .ok (.aload_n 1, 1) := by decide +kernel
theorem dX0_fewestGroups_6 : decode mX0_fewestGroups.2.1 6 = .ok (.getfield 27, 3) := by decide +kernel
theorem dX0_fewestGroups_9 : decode mX0_fewestGroups.2.1 9 = .ok (.if_icmp .ge 24, 3) := by decide +kernel
theorem dX0_fewestGroups_12 : decode mX0_fewestGroups.2.1 12 = .ok (.aload_n 0, 1) := by decide +kernel
theorem dX0_fewestGroups_13 : decode mX0_fewestGroups.2.1 13 = .ok (.getfield 9, 3) := by decide +kernel
theorem dX0_fewestGroups_16 : decode mX0_fewestGroups.2.1 16 = .ok (.iload 4, 2) := by decide +kernel
theorem dX0_fewestGroups_18 : decode mX0_fewestGroups.2.1 18 = .ok (.aload_n 0, 1) := by decide +kernel
theorem dX0_fewestGroups_19 : decode mX0_fewestGroups.2.1 19 = .ok (.aload_n 1, 1) := by decide +kernel
theorem dX0_fewestGroups_20 : decode mX0_fewestGroups.2.1 20 = .ok (.iload_n 2, 1) := by decide +kernel
theorem dX0_fewestGroups_21 : decode mX0_fewestGroups.2.1 21 = .ok (.iload 4, 2) := by decide +kernel
theorem dX0_fewestGroups_23 : decode mX0_fewestGroups.2.1 23 = .ok (.invokevirtual 30, 3) := by decide +kernel
theorem dX0_fewestGroups_26 : decode mX0_fewestGroups.2.1 26 = .ok (.iastore, 1) := by decide +kernel
theorem dX0_fewestGroups_27 : decode mX0_fewestGroups.2.1 27 = .ok (.iinc 4 1, 3) := by decide +kernel
theorem dX0_fewestGroups_30 : decode mX0_fewestGroups.2.1 30 = .ok (.goto (-27), 3) := by decide +kernel
theorem dX0_fewestGroups_33 : decode mX0_fewestGroups.2.1 33 = .ok (.iconst 0, 1) := by decide +kernel
theorem dX0_fewestGroups_34 : decode mX0_fewestGroups.2.1 34 = .ok (.istore 4, 2) := by decide +kernel
theorem dX0_fewestGroups_36 : decode mX0_fewestGroups.2.1 36 = .ok (.iload 4, 2) := by decide +kernel
theorem dX0_fewestGroups_38 : decode mX0_fewestGroups.2.1 38 = .ok (.aload_n 1, 1) := by decide +kernel
theorem dX0_fewestGroups_39 : decode mX0_fewestGroups.2.1 39 = .ok (.getfield 27, 3) := by decide +kernel
theorem dX0_fewestGroups_42 : decode mX0_fewestGroups.2.1 42 = .ok (.if_icmp .ge 27, 3) := by decide +kernel
theorem dX0_fewestGroups_45 : decode mX0_fewestGroups.2.1 45 = .ok (.aload_n 0, 1) := by decide +kernel
theorem dX0_fewestGroups_46 : decode mX0_fewestGroups.2.1 46 = .ok (.iconst 0, 1) := by decide +kernel
theorem dX0_fewestGroups_47 : decode mX0_fewestGroups.2.1 47 = .ok (.aload_n 1, 1) := by decide +kernel
theorem dX0_fewestGroups_48 : decode mX0_fewestGroups.2.1 48 = .ok (.getfield 27, 3) := by decide +kernel
theorem dX0_fewestGroups_51 : decode mX0_fewestGroups.2.1 51 = .ok (.iload 4, 2) := by decide +kernel
theorem dX0_fewestGroups_53 : decode mX0_fewestGroups.2.1 53 = .ok (.aload_n 3, 1) := by decide +kernel
theorem dX0_fewestGroups_54 : decode mX0_fewestGroups.2.1 54 = .ok (.invokevirtual 34, 3) := by decide +kernel
theorem dX0_fewestGroups_57 : decode mX0_fewestGroups.2.1 57 = .ok (.ifCond .eq 6, 3) := by decide +kernel
theorem dX0_fewestGroups_60 : decode mX0_fewestGroups.2.1 60 = .ok (.iload 4, 2) := by decide +kernel
theorem dX0_fewestGroups_62 : decode mX0_fewestGroups.2.1 62 = .ok (.ireturn, 1) := by decide +kernel
theorem dX0_fewestGroups_63 : decode mX0_fewestGroups.2.1 63 = .ok (.iinc 4 1, 3) := by decide +kernel
theorem dX0_fewestGroups_66 : decode mX0_fewestGroups.2.1 66 = .ok (.goto (-30), 3) := by decide +kernel
theorem dX0_fewestGroups_69 : decode mX0_fewestGroups.2.1 69 = .ok (.aload_n 0, 1) := by decide +kernel
theorem dX0_fewestGroups_70 : decode mX0_fewestGroups.2.1 70 = .ok (.iconst 0, 1) := by decide +kernel
theorem dX0_fewestGroups_71 : decode mX0_fewestGroups.2.1 71 = .ok (.aload_n 1, 1) := by decide +kernel
theorem dX0_fewestGroups_72 : decode mX0_fewestGroups.2.1 72 = .ok (.getfield 27, 3) := by decide +kernel
theorem dX0_fewestGroups_75 : decode mX0_fewestGroups.2.1 75 = .ok (.aload_n 1, 1) := by decide +kernel
theorem dX0_fewestGroups_76 : decode mX0_fewestGroups.2.1 76 = .ok (.getfield 27, 3) := by decide +kernel
theorem dX0_fewestGroups_79 : decode mX0_fewestGroups.2.1 79 = .ok (.aload_n 3, 1) := by decide +kernel
theorem dX0_fewestGroups_80 : decode mX0_fewestGroups.2.1 80 = .ok (.invokevirtual 34, 3) := by decide +kernel
theorem dX0_fewestGroups_83 : decode mX0_fewestGroups.2.1 83 = .ok (.pop, 1) := by decide +kernel
theorem dX0_fewestGroups_84 : decode mX0_fewestGroups.2.1 84 = .ok (.aload_n 1, 1) := by decide +kernel
theorem dX0_fewestGroups_85 : decode mX0_fewestGroups.2.1 85 = .ok (.getfield 27, 3) := by decide +kernel
theorem dX0_fewestGroups_88 : decode mX0_fewestGroups.2.1 88 = .ok (.ireturn, 1) := by decide +kernel
theorem bX0_fewestGroups_0 {E : px_E} {d : Nat} {w : pw_W} {Q : Option Value → pw_W → Prop} {t : ct_T} (hw : w.1 = cs t) {x2 : Int32} {r1 : Nat} (hr1 : is_Hamlet r1) {r3 : Nat} 
    (k1 : px_W E mX0_fewestGroups (d + 1) 0 0 3 [.ref 46, .ref r1, .int x2, .ref r3, .int 0] [] w Q) :
    px_W E mX0_fewestGroups (d + 1) 0 0 0 [.ref 46, .ref r1, .int x2, .ref r3, .null] [] w Q := by
  refine px_iconst dX0_fewestGroups_0 ic_0 ?_
  refine px_istore (ls' := [.ref 46, .ref r1, .int x2, .ref r3, .int 0]) dX0_fewestGroups_1 ⟨by decide, rfl⟩ rfl ?_
  exact k1
theorem eX0_fewestGroups {E : px_E} {d : Nat} {w : pw_W} {Q : Option Value → pw_W → Prop} {t : ct_T} (hw : w.1 = cs t) {x2 : Int32} {r1 : Nat} (hr1 : is_Hamlet r1) {r3 : Nat} 
    (k1 : px_W E mX0_fewestGroups (d + 1) 0 0 3 [.ref 46, .ref r1, .int x2, .ref r3, .int 0] [] w Q) :
    px_Call E (d + 1) 0 0 mX0_fewestGroups [.ref 46, .ref r1, .int x2, .ref r3] w Q :=
  px_enter (k := 1) (by decide) (Nat.le_of_ble_eq_true rfl) rfl (px_forget (bX0_fewestGroups_0 hw hr1 k1) ⟨Or.inr rfl, Or.inr rfl, Or.inr rfl, Or.inr rfl, Or.inl rfl, trivial⟩)
theorem bX0_fewestGroups_3 {E : px_E} {d : Nat} {w : pw_W} {Q : Option Value → pw_W → Prop} {t : ct_T} (hw : w.1 = cs t) {x2 x4 : Int32} {r1 : Nat} (hr1 : is_Hamlet r1) {r3 : Nat} 
    (k1 : (pw_I w r1 0) ≤ x4 → px_W E mX0_fewestGroups (d + 1) 0 0 36 [.ref 46, .ref r1, .null, .ref r3, .int 0] [] w Q)
    (k2 : ¬ (pw_I w r1 0) ≤ x4 → px_Call E d 0 0 mX0_companyOf [.ref 46, .ref r1, .int x2, .int x4] w (fun v w' => px_W E mX0_fewestGroups (d + 1) 0 0 26 [.ref 46, .ref r1, .int x2, .ref r3, .int x4] (v.toList ++ [.int x4, .ref 47]) w' Q)) :
    px_W E mX0_fewestGroups (d + 1) 0 0 3 [.ref 46, .ref r1, .int x2, .ref r3, .int x4] [] w Q := by
  refine px_iload dX0_fewestGroups_3 rfl ?_
  refine px_aload_n dX0_fewestGroups_5 rfl rfl ?_
  refine px_getI dX0_fewestGroups_6 fr_0_27 rfl (px_sh1 hw hr1.sh) ?_
  refine px_icmp_ge (tgt := 33) dX0_fewestGroups_9 (by decide) (fun h1 => ?_) (fun h1 => ?_)
  ·
    refine px_iconst dX0_fewestGroups_33 ic_0 ?_
    refine px_istore (ls' := [.ref 46, .ref r1, .int x2, .ref r3, .int 0]) dX0_fewestGroups_34 ⟨by decide, rfl⟩ rfl ?_
    exact px_forget (k1 h1) ⟨Or.inr rfl, Or.inr rfl, Or.inl rfl, Or.inr rfl, Or.inr rfl, trivial⟩
  ·
    refine px_aload_n dX0_fewestGroups_12 rfl rfl ?_
    refine px_getR (v := 47) dX0_fewestGroups_13 fr_0_9 rfl (px_sh1 hw sh_46) (px_rf hw rf_46_0) (by decide) ?_
    refine px_iload dX0_fewestGroups_16 rfl ?_
    refine px_aload_n dX0_fewestGroups_18 rfl rfl ?_
    refine px_aload_n dX0_fewestGroups_19 rfl rfl ?_
    refine px_iload_n dX0_fewestGroups_20 rfl rfl ?_
    refine px_iload dX0_fewestGroups_21 rfl ?_
    exact px_callV (As := [.ref r1, .int x2, .int x4]) (st := [.int x4, .ref 47]) (rc := 0) (rs := 0) (mc := 0) (ms := 0) dX0_fewestGroups_23 lk_0_30 (px_sh1 hw sh_46) rfl rfl (Nat.le_of_ble_eq_true rfl) (k2 h1)
theorem bX0_fewestGroups_26 {E : px_E} {d : Nat} {w : pw_W} {Q : Option Value → pw_W → Prop} {t : ct_T} (hw : w.1 = cs t) {x2 x4 y1 y2 : Int32} {r1 : Nat} (hr1 : is_Hamlet r1) {r3 : Nat} (j1 : Nat) (hj1 : y1 = nI j1) (hl1 : j1 < 6)
    (k1 : px_W E mX0_fewestGroups (d + 1) 0 0 3 [.ref 46, .ref r1, .int x2, .ref r3, .int (x4 + 1)] [] (pw_sI w 47 j1 y2) Q) :
    px_W E mX0_fewestGroups (d + 1) 0 0 26 [.ref 46, .ref r1, .int x2, .ref r3, .int x4] [.int y2, .int y1, .ref 47] w Q := by
  refine px_iast dX0_fewestGroups_26 (px_sh2 hw sh_47) (by decide) j1 hj1 hl1 (by omega) ?_
  refine px_iinc (ls' := [.ref 46, .ref r1, .int x2, .ref r3, .int (x4 + 1)]) dX0_fewestGroups_27 ⟨by decide, rfl⟩ rfl rfl rfl ?_
  refine px_goto (tgt := 3) dX0_fewestGroups_30 (by decide) ?_
  exact k1
theorem bX0_fewestGroups_36 {E : px_E} {d : Nat} {w : pw_W} {Q : Option Value → pw_W → Prop} {t : ct_T} (hw : w.1 = cs t) {x4 : Int32} {r1 : Nat} (hr1 : is_Hamlet r1) {r3 : Nat} 
    (k1 : (pw_I w r1 0) ≤ x4 → px_Call E d 0 0 mX0_isParted [.ref 46, .int 0, .int (pw_I w r1 0), .int (pw_I w r1 0), .ref r3] w (fun v w' => px_W E mX0_fewestGroups (d + 1) 0 0 83 [.null, .ref r1, .null, .null, .null] (v.toList ++ []) w' Q))
    (k2 : ¬ (pw_I w r1 0) ≤ x4 → px_Call E d 0 0 mX0_isParted [.ref 46, .int 0, .int (pw_I w r1 0), .int x4, .ref r3] w (fun v w' => px_W E mX0_fewestGroups (d + 1) 0 0 57 [.ref 46, .ref r1, .null, .ref r3, .int x4] (v.toList ++ []) w' Q)) :
    px_W E mX0_fewestGroups (d + 1) 0 0 36 [.ref 46, .ref r1, .null, .ref r3, .int x4] [] w Q := by
  refine px_iload dX0_fewestGroups_36 rfl ?_
  refine px_aload_n dX0_fewestGroups_38 rfl rfl ?_
  refine px_getI dX0_fewestGroups_39 fr_0_27 rfl (px_sh1 hw hr1.sh) ?_
  refine px_icmp_ge (tgt := 69) dX0_fewestGroups_42 (by decide) (fun h1 => ?_) (fun h1 => ?_)
  ·
    refine px_aload_n dX0_fewestGroups_69 rfl rfl ?_
    refine px_iconst dX0_fewestGroups_70 ic_0 ?_
    refine px_aload_n dX0_fewestGroups_71 rfl rfl ?_
    refine px_getI dX0_fewestGroups_72 fr_0_27 rfl (px_sh1 hw hr1.sh) ?_
    refine px_aload_n dX0_fewestGroups_75 rfl rfl ?_
    refine px_getI dX0_fewestGroups_76 fr_0_27 rfl (px_sh1 hw hr1.sh) ?_
    refine px_aload_n dX0_fewestGroups_79 rfl rfl ?_
    refine px_forget (ls' := [.null, .ref r1, .null, .null, .null]) ?_ ⟨Or.inl rfl, Or.inr rfl, Or.inl rfl, Or.inl rfl, Or.inl rfl, trivial⟩
    exact px_callV (As := [.int 0, .int (pw_I w r1 0), .int (pw_I w r1 0), .ref r3]) (st := []) (rc := 0) (rs := 0) (mc := 0) (ms := 0) dX0_fewestGroups_80 lk_0_34 (px_sh1 hw sh_46) rfl rfl (Nat.le_of_ble_eq_true rfl) (k1 h1)
  ·
    refine px_aload_n dX0_fewestGroups_45 rfl rfl ?_
    refine px_iconst dX0_fewestGroups_46 ic_0 ?_
    refine px_aload_n dX0_fewestGroups_47 rfl rfl ?_
    refine px_getI dX0_fewestGroups_48 fr_0_27 rfl (px_sh1 hw hr1.sh) ?_
    refine px_iload dX0_fewestGroups_51 rfl ?_
    refine px_aload_n dX0_fewestGroups_53 rfl rfl ?_
    exact px_callV (As := [.int 0, .int (pw_I w r1 0), .int x4, .ref r3]) (st := []) (rc := 0) (rs := 0) (mc := 0) (ms := 0) dX0_fewestGroups_54 lk_0_34 (px_sh1 hw sh_46) rfl rfl (Nat.le_of_ble_eq_true rfl) (k2 h1)
theorem bX0_fewestGroups_57 {E : px_E} {d : Nat} {w : pw_W} {Q : Option Value → pw_W → Prop} {t : ct_T} (hw : w.1 = cs t) {x4 y0 : Int32} {r1 : Nat} (hr1 : is_Hamlet r1) {r3 : Nat} 
    (k1 : y0 = 0 → px_W E mX0_fewestGroups (d + 1) 0 0 36 [.ref 46, .ref r1, .null, .ref r3, .int (x4 + 1)] [] w Q)
    (k2 : ¬ y0 = 0 → Q (some (.int x4)) w) :
    px_W E mX0_fewestGroups (d + 1) 0 0 57 [.ref 46, .ref r1, .null, .ref r3, .int x4] [.int y0] w Q := by
  refine px_if_eq (tgt := 63) dX0_fewestGroups_57 (by decide) (fun h1 => ?_) (fun h1 => ?_)
  ·
    refine px_iinc (ls' := [.ref 46, .ref r1, .null, .ref r3, .int (x4 + 1)]) dX0_fewestGroups_63 ⟨by decide, rfl⟩ rfl rfl rfl ?_
    refine px_goto (tgt := 36) dX0_fewestGroups_66 (by decide) ?_
    exact (k1 h1)
  ·
    refine px_iload dX0_fewestGroups_60 rfl ?_
    exact px_ireturn dX0_fewestGroups_62 rfl rfl (k2 h1)
theorem bX0_fewestGroups_83 {E : px_E} {d : Nat} {w : pw_W} {Q : Option Value → pw_W → Prop} {t : ct_T} (hw : w.1 = cs t) {y0 : Int32} {r1 : Nat} (hr1 : is_Hamlet r1) {r3 : Nat} 
    (k1 : Q (some (.int (pw_I w r1 0))) w) :
    px_W E mX0_fewestGroups (d + 1) 0 0 83 [.null, .ref r1, .null, .null, .null] [.int y0] w Q := by
  refine px_pop dX0_fewestGroups_83 rfl ?_
  refine px_aload_n dX0_fewestGroups_84 rfl rfl ?_
  refine px_getI dX0_fewestGroups_85 fr_0_27 rfl (px_sh1 hw hr1.sh) ?_
  exact px_ireturn dX0_fewestGroups_88 rfl rfl k1
theorem dX0_isParted_0 : decode mX0_isParted.2.1 0 = .ok (.iload_n 1, 1) := by decide +kernel
theorem dX0_isParted_1 : decode mX0_isParted.2.1 1 = .ok (.iload_n 2, 1) := by decide +kernel
theorem dX0_isParted_2 : decode mX0_isParted.2.1 2 = .ok (.if_icmp .ge 10, 3) := by decide +kernel
theorem dX0_isParted_5 : decode mX0_isParted.2.1 5 = .ok (.iload_n 1, 1) := by decide +kernel
theorem dX0_isParted_6 : decode mX0_isParted.2.1 6 = .ok (.aload 4, 2) := by decide +kernel
theorem dX0_isParted_8 : decode mX0_isParted.2.1 8 = .ok (.arraylength, 1) := by decide +kernel
theorem dX0_isParted_9 : decode mX0_isParted.2.1 9 = .ok (.if_icmp .lt 5, 3) := by decide +kernel
theorem dX0_isParted_12 : decode mX0_isParted.2.1 12 = .ok (.iconst 1, 1) := by decide +kernel
theorem dX0_isParted_13 : decode mX0_isParted.2.1 13 = .ok (.ireturn, 1) := by decide +kernel
theorem dX0_isParted_14 : decode mX0_isParted.2.1 14 = .ok (.iconst 0, 1) := by decide +kernel
theorem dX0_isParted_15 : decode mX0_isParted.2.1 15 = .ok (.istore 5, 2) := by decide +kernel
theorem dX0_isParted_17 : decode mX0_isParted.2.1 17 = .ok (.iload 5, 2) := by decide +kernel
theorem dX0_isParted_19 : decode mX0_isParted.2.1 19 = .ok (.iload_n 3, 1) := by decide +kernel
theorem dX0_isParted_20 : decode mX0_isParted.2.1 20 = .ok (.if_icmp .ge 43, 3) := by decide +kernel
theorem dX0_isParted_23 : decode mX0_isParted.2.1 23 = .ok (.aload_n 0, 1) := by decide +kernel
theorem dX0_isParted_24 : decode mX0_isParted.2.1 24 = .ok (.iload_n 1, 1) := by decide +kernel
theorem dX0_isParted_25 : decode mX0_isParted.2.1 25 = .ok (.iload 5, 2) := by decide +kernel
theorem dX0_isParted_27 : decode mX0_isParted.2.1 27 = .ok (.aload 4, 2) := by decide +kernel
theorem dX0_isParted_29 : decode mX0_isParted.2.1 29 = .ok (.invokevirtual 38, 3) := by decide +kernel
theorem dX0_isParted_32 : decode mX0_isParted.2.1 32 = .ok (.ifCond .eq 25, 3) := by decide +kernel
theorem dX0_isParted_35 : decode mX0_isParted.2.1 35 = .ok (.aload 4, 2) := by decide +kernel
theorem dX0_isParted_37 : decode mX0_isParted.2.1 37 = .ok (.iload_n 1, 1) := by decide +kernel
theorem dX0_isParted_38 : decode mX0_isParted.2.1 38 = .ok (.iload 5, 2) := by decide +kernel
theorem dX0_isParted_40 : decode mX0_isParted.2.1 40 = .ok (.iastore, 1) := by decide +kernel
theorem dX0_isParted_41 : decode mX0_isParted.2.1 41 = .ok (.aload_n 0, 1) := by decide +kernel
theorem dX0_isParted_42 : decode mX0_isParted.2.1 42 = .ok (.iload_n 1, 1) := by decide +kernel
theorem dX0_isParted_43 : decode mX0_isParted.2.1 43 = .ok (.iconst 1, 1) := by decide +kernel
theorem dX0_isParted_44 : decode mX0_isParted.2.1 44 = .ok (.iadd, 1) := by decide +kernel
theorem dX0_isParted_45 : decode mX0_isParted.2.1 45 = .ok (.iload_n 2, 1) := by decide +kernel
theorem dX0_isParted_46 : decode mX0_isParted.2.1 46 = .ok (.iload_n 3, 1) := by decide +kernel
theorem dX0_isParted_47 : decode mX0_isParted.2.1 47 = .ok (.aload 4, 2) := by decide +kernel
theorem dX0_isParted_49 : decode mX0_isParted.2.1 49 = .ok (.invokevirtual 34, 3) := by decide +kernel
theorem dX0_isParted_52 : decode mX0_isParted.2.1 52 = .ok (.ifCond .eq 5, 3) := by decide +kernel
theorem dX0_isParted_55 : decode mX0_isParted.2.1 55 = .ok (.iconst 1, 1) := by decide +kernel
theorem dX0_isParted_56 : decode mX0_isParted.2.1 56 = .ok (.ireturn, 1) := by decide +kernel
theorem dX0_isParted_57 : decode mX0_isParted.2.1 57 = .ok (.iinc 5 1, 3) := by decide +kernel
theorem dX0_isParted_60 : decode mX0_isParted.2.1 60 = .ok (.goto (-43), 3) := by decide +kernel
theorem dX0_isParted_63 : decode mX0_isParted.2.1 63 = .ok (.iconst 0, 1) := by decide +kernel
theorem dX0_isParted_64 : decode mX0_isParted.2.1 64 = .ok (.ireturn, 1) := by decide +kernel
theorem bX0_isParted_0 {E : px_E} {d : Nat} {w : pw_W} {Q : Option Value → pw_W → Prop} {t : ct_T} (hw : w.1 = cs t) {x1 x2 x3 : Int32} {r4 n4 : Nat} (hs4 : (cs t).2.1 r4 = (100, n4)) (hn4 : n4 < 2 ^ 31) 
    (k1 : x2 ≤ x1 → px_W E mX0_isParted (d + 1) 0 0 12 [.null, .null, .null, .null, .null, .null] [] w Q)
    (k2 : ¬ x2 ≤ x1 → x1 < (nI n4) → px_W E mX0_isParted (d + 1) 0 0 17 [.ref 46, .int x1, .int x2, .int x3, .ref r4, .int 0] [] w Q)
    (k3 : ¬ x2 ≤ x1 → ¬ x1 < (nI n4) → px_W E mX0_isParted (d + 1) 0 0 12 [.null, .null, .null, .null, .null, .null] [] w Q) :
    px_W E mX0_isParted (d + 1) 0 0 0 [.ref 46, .int x1, .int x2, .int x3, .ref r4, .null] [] w Q := by
  refine px_iload_n dX0_isParted_0 rfl rfl ?_
  refine px_iload_n dX0_isParted_1 rfl rfl ?_
  refine px_icmp_ge (tgt := 12) dX0_isParted_2 (by decide) (fun h1 => ?_) (fun h1 => ?_)
  ·
    exact px_forget (k1 h1) ⟨Or.inl rfl, Or.inl rfl, Or.inl rfl, Or.inl rfl, Or.inl rfl, Or.inl rfl, trivial⟩
  ·
    refine px_iload_n dX0_isParted_5 rfl rfl ?_
    refine px_aload dX0_isParted_6 rfl ?_
    refine px_alen dX0_isParted_8 (px_sh2 hw hs4) (by decide) rfl ?_
    refine px_icmp_lt (tgt := 14) dX0_isParted_9 (by decide) (fun h2 => ?_) (fun h2 => ?_)
    ·
      refine px_iconst dX0_isParted_14 ic_0 ?_
      refine px_istore (ls' := [.ref 46, .int x1, .int x2, .int x3, .ref r4, .int 0]) dX0_isParted_15 ⟨by decide, rfl⟩ rfl ?_
      exact (k2 h1 h2)
    ·
      exact px_forget (k3 h1 h2) ⟨Or.inl rfl, Or.inl rfl, Or.inl rfl, Or.inl rfl, Or.inl rfl, Or.inl rfl, trivial⟩
theorem eX0_isParted {E : px_E} {d : Nat} {w : pw_W} {Q : Option Value → pw_W → Prop} {t : ct_T} (hw : w.1 = cs t) {x1 x2 x3 : Int32} {r4 n4 : Nat} (hs4 : (cs t).2.1 r4 = (100, n4)) (hn4 : n4 < 2 ^ 31) 
    (k1 : x2 ≤ x1 → px_W E mX0_isParted (d + 1) 0 0 12 [.null, .null, .null, .null, .null, .null] [] w Q)
    (k2 : ¬ x2 ≤ x1 → x1 < (nI n4) → px_W E mX0_isParted (d + 1) 0 0 17 [.ref 46, .int x1, .int x2, .int x3, .ref r4, .int 0] [] w Q)
    (k3 : ¬ x2 ≤ x1 → ¬ x1 < (nI n4) → px_W E mX0_isParted (d + 1) 0 0 12 [.null, .null, .null, .null, .null, .null] [] w Q) :
    px_Call E (d + 1) 0 0 mX0_isParted [.ref 46, .int x1, .int x2, .int x3, .ref r4] w Q :=
  px_enter (k := 1) (by decide) (Nat.le_of_ble_eq_true rfl) rfl (px_forget (bX0_isParted_0 hw hs4 hn4 k1 k2 k3) ⟨Or.inr rfl, Or.inr rfl, Or.inr rfl, Or.inr rfl, Or.inr rfl, Or.inl rfl, trivial⟩)
theorem bX0_isParted_12 {E : px_E} {d : Nat} {w : pw_W} {Q : Option Value → pw_W → Prop} {t : ct_T} (hw : w.1 = cs t) {r4 n4 : Nat} (hs4 : (cs t).2.1 r4 = (100, n4)) (hn4 : n4 < 2 ^ 31) 
    (k1 : Q (some (.int 1)) w) :
    px_W E mX0_isParted (d + 1) 0 0 12 [.null, .null, .null, .null, .null, .null] [] w Q := by
  refine px_iconst dX0_isParted_12 ic_1 ?_
  exact px_ireturn dX0_isParted_13 rfl (by decide) k1
theorem bX0_isParted_17 {E : px_E} {d : Nat} {w : pw_W} {Q : Option Value → pw_W → Prop} {t : ct_T} (hw : w.1 = cs t) {x1 x2 x3 x5 : Int32} {r4 n4 : Nat} (hs4 : (cs t).2.1 r4 = (100, n4)) (hn4 : n4 < 2 ^ 31) 
    (k1 : x3 ≤ x5 → Q (some (.int 0)) w)
    (k2 : ¬ x3 ≤ x5 → px_Call E d 0 0 mX0_isFree [.ref 46, .int x1, .int x5, .ref r4] w (fun v w' => px_W E mX0_isParted (d + 1) 0 0 32 [.ref 46, .int x1, .int x2, .int x3, .ref r4, .int x5] (v.toList ++ []) w' Q)) :
    px_W E mX0_isParted (d + 1) 0 0 17 [.ref 46, .int x1, .int x2, .int x3, .ref r4, .int x5] [] w Q := by
  refine px_iload dX0_isParted_17 rfl ?_
  refine px_iload_n dX0_isParted_19 rfl rfl ?_
  refine px_icmp_ge (tgt := 63) dX0_isParted_20 (by decide) (fun h1 => ?_) (fun h1 => ?_)
  ·
    refine px_iconst dX0_isParted_63 ic_0 ?_
    exact px_ireturn dX0_isParted_64 rfl (by decide) (k1 h1)
  ·
    refine px_aload_n dX0_isParted_23 rfl rfl ?_
    refine px_iload_n dX0_isParted_24 rfl rfl ?_
    refine px_iload dX0_isParted_25 rfl ?_
    refine px_aload dX0_isParted_27 rfl ?_
    exact px_callV (As := [.int x1, .int x5, .ref r4]) (st := []) (rc := 0) (rs := 0) (mc := 0) (ms := 0) dX0_isParted_29 lk_0_38 (px_sh1 hw sh_46) rfl rfl (Nat.le_of_ble_eq_true rfl) (k2 h1)
theorem bX0_isParted_32 {E : px_E} {d : Nat} {w : pw_W} {Q : Option Value → pw_W → Prop} {t : ct_T} (hw : w.1 = cs t) {x1 x2 x3 x5 y0 : Int32} {r4 n4 : Nat} (hs4 : (cs t).2.1 r4 = (100, n4)) (hn4 : n4 < 2 ^ 31) 
    (k1 : y0 = 0 → px_W E mX0_isParted (d + 1) 0 0 57 [.ref 46, .int x1, .int x2, .int x3, .ref r4, .int x5] [] w Q)
    (k2 : ¬ y0 = 0 → px_W E mX0_isParted (d + 1) 0 0 35 [.ref 46, .int x1, .int x2, .int x3, .ref r4, .int x5] [] w Q) :
    px_W E mX0_isParted (d + 1) 0 0 32 [.ref 46, .int x1, .int x2, .int x3, .ref r4, .int x5] [.int y0] w Q := by
  refine px_if_eq (tgt := 57) dX0_isParted_32 (by decide) (fun h1 => ?_) (fun h1 => ?_)
  ·
    exact (k1 h1)
  ·
    exact (k2 h1)
theorem bX0_isParted_35 {E : px_E} {d : Nat} {w : pw_W} {Q : Option Value → pw_W → Prop} {t : ct_T} (hw : w.1 = cs t) {x1 x2 x3 x5 : Int32} {r4 n4 : Nat} (hs4 : (cs t).2.1 r4 = (100, n4)) (hn4 : n4 < 2 ^ 31) (j1 : Nat) (hj1 : x1 = nI j1) (hl1 : j1 < n4)
    (k1 : px_Call E d 0 0 mX0_isParted [.ref 46, .int (x1 + 1), .int x2, .int x3, .ref r4] (pw_sI w r4 j1 x5) (fun v w' => px_W E mX0_isParted (d + 1) 0 0 52 [.ref 46, .int x1, .int x2, .int x3, .ref r4, .int x5] (v.toList ++ []) w' Q)) :
    px_W E mX0_isParted (d + 1) 0 0 35 [.ref 46, .int x1, .int x2, .int x3, .ref r4, .int x5] [] w Q := by
  refine px_aload dX0_isParted_35 rfl ?_
  refine px_iload_n dX0_isParted_37 rfl rfl ?_
  refine px_iload dX0_isParted_38 rfl ?_
  refine px_iast dX0_isParted_40 (px_sh2 hw hs4) hn4 j1 hj1 hl1 (by omega) ?_
  refine px_aload_n dX0_isParted_41 rfl rfl ?_
  refine px_iload_n dX0_isParted_42 rfl rfl ?_
  refine px_iconst dX0_isParted_43 ic_1 ?_
  refine px_iadd dX0_isParted_44 ?_
  refine px_iload_n dX0_isParted_45 rfl rfl ?_
  refine px_iload_n dX0_isParted_46 rfl rfl ?_
  refine px_aload dX0_isParted_47 rfl ?_
  exact px_callV (As := [.int (x1 + 1), .int x2, .int x3, .ref r4]) (st := []) (rc := 0) (rs := 0) (mc := 0) (ms := 0) dX0_isParted_49 lk_0_34 (px_sh1 (hI hw) sh_46) rfl rfl (Nat.le_of_ble_eq_true rfl) k1
theorem bX0_isParted_52 {E : px_E} {d : Nat} {w : pw_W} {Q : Option Value → pw_W → Prop} {t : ct_T} (hw : w.1 = cs t) {x1 x2 x3 x5 y0 : Int32} {r4 n4 : Nat} (hs4 : (cs t).2.1 r4 = (100, n4)) (hn4 : n4 < 2 ^ 31) 
    (k1 : y0 = 0 → px_W E mX0_isParted (d + 1) 0 0 57 [.ref 46, .int x1, .int x2, .int x3, .ref r4, .int x5] [] w Q)
    (k2 : ¬ y0 = 0 → Q (some (.int 1)) w) :
    px_W E mX0_isParted (d + 1) 0 0 52 [.ref 46, .int x1, .int x2, .int x3, .ref r4, .int x5] [.int y0] w Q := by
  refine px_if_eq (tgt := 57) dX0_isParted_52 (by decide) (fun h1 => ?_) (fun h1 => ?_)
  ·
    exact (k1 h1)
  ·
    refine px_iconst dX0_isParted_55 ic_1 ?_
    exact px_ireturn dX0_isParted_56 rfl (by decide) (k2 h1)
theorem bX0_isParted_57 {E : px_E} {d : Nat} {w : pw_W} {Q : Option Value → pw_W → Prop} {t : ct_T} (hw : w.1 = cs t) {x1 x2 x3 x5 : Int32} {r4 n4 : Nat} (hs4 : (cs t).2.1 r4 = (100, n4)) (hn4 : n4 < 2 ^ 31) 
    (k1 : px_W E mX0_isParted (d + 1) 0 0 17 [.ref 46, .int x1, .int x2, .int x3, .ref r4, .int (x5 + 1)] [] w Q) :
    px_W E mX0_isParted (d + 1) 0 0 57 [.ref 46, .int x1, .int x2, .int x3, .ref r4, .int x5] [] w Q := by
  refine px_iinc (ls' := [.ref 46, .int x1, .int x2, .int x3, .ref r4, .int (x5 + 1)]) dX0_isParted_57 ⟨by decide, rfl⟩ rfl rfl rfl ?_
  refine px_goto (tgt := 17) dX0_isParted_60 (by decide) ?_
  exact k1
theorem dX0_isFree_0 : decode mX0_isFree.2.1 0 = .ok (.iconst 0, 1) := by decide +kernel
theorem dX0_isFree_1 : decode mX0_isFree.2.1 1 = .ok (.istore 4, 2) := by decide +kernel
theorem dX0_isFree_3 : decode mX0_isFree.2.1 3 = .ok (.iload 4, 2) := by decide +kernel
theorem dX0_isFree_5 : decode mX0_isFree.2.1 5 = .ok (.iload_n 1, 1) := by decide +kernel
theorem dX0_isFree_6 : decode mX0_isFree.2.1 6 = .ok (.if_icmp .ge 34, 3) := by decide +kernel
theorem dX0_isFree_9 : decode mX0_isFree.2.1 9 = .ok (.aload_n 3, 1) := by decide +kernel
theorem dX0_isFree_10 : decode mX0_isFree.2.1 10 = .ok (.iload 4, 2) := by decide +kernel
theorem dX0_isFree_12 : decode mX0_isFree.2.1 12 = .ok (.iaload, 1) := by decide +kernel
theorem dX0_isFree_13 : decode mX0_isFree.2.1 13 = .ok (.iload_n 2, 1) := by decide +kernel
theorem dX0_isFree_14 : decode mX0_isFree.2.1 14 = .ok (.if_icmp .ne 20, 3) := by decide +kernel
theorem dX0_isFree_17 : decode mX0_isFree.2.1 17 = .ok (.aload_n 0, 1) := by decide +kernel
theorem dX0_isFree_18 : decode mX0_isFree.2.1 18 = .ok (.getfield 9, 3) := by decide +kernel
theorem dX0_isFree_21 : decode mX0_isFree.2.1 21 = .ok (.iload_n 1, 1) := by decide +kernel
theorem dX0_isFree_22 : decode mX0_isFree.2.1 22 = .ok (.iaload, 1) := by decide +kernel
theorem dX0_isFree_23 : decode mX0_isFree.2.1 23 = .ok (.iload 4, 2) := by decide +kernel
theorem dX0_isFree_25 : decode mX0_isFree.2.1 25 = .ok (.ishr, 1) := by decide +kernel
theorem dX0_isFree_26 : decode mX0_isFree.2.1 26 = .ok (.iconst 1, 1) := by decide +kernel
theorem dX0_isFree_27 : decode mX0_isFree.2.1 27 = .ok (.iand, 1) := by decide +kernel
theorem dX0_isFree_28 : decode mX0_isFree.2.1 28 = .ok (.iconst 1, 1) := by decide +kernel
theorem dX0_isFree_29 : decode mX0_isFree.2.1 29 = .ok (.if_icmp .ne 5, 3) := by decide +kernel
theorem dX0_isFree_32 : decode mX0_isFree.2.1 32 = .ok (.iconst 0, 1) := by decide +kernel
theorem dX0_isFree_33 : decode mX0_isFree.2.1 33 = .ok (.ireturn, 1) := by decide +kernel
theorem dX0_isFree_34 : decode mX0_isFree.2.1 34 = .ok (.iinc 4 1, 3) := by decide +kernel
theorem dX0_isFree_37 : decode mX0_isFree.2.1 37 = .ok (.goto (-34), 3) := by decide +kernel
theorem dX0_isFree_40 : decode mX0_isFree.2.1 40 = .ok (.iconst 1, 1) := by decide +kernel
theorem dX0_isFree_41 : decode mX0_isFree.2.1 41 = .ok (.ireturn, 1) := by decide +kernel
theorem bX0_isFree_0 {E : px_E} {d : Nat} {w : pw_W} {Q : Option Value → pw_W → Prop} {t : ct_T} (hw : w.1 = cs t) {x1 x2 : Int32} {r3 n3 : Nat} (hs3 : (cs t).2.1 r3 = (100, n3)) (hn3 : n3 < 2 ^ 31) 
    (k1 : px_W E mX0_isFree (d + 1) 0 0 3 [.ref 46, .int x1, .int x2, .ref r3, .int 0] [] w Q) :
    px_W E mX0_isFree (d + 1) 0 0 0 [.ref 46, .int x1, .int x2, .ref r3, .null] [] w Q := by
  refine px_iconst dX0_isFree_0 ic_0 ?_
  refine px_istore (ls' := [.ref 46, .int x1, .int x2, .ref r3, .int 0]) dX0_isFree_1 ⟨by decide, rfl⟩ rfl ?_
  exact k1
theorem eX0_isFree {E : px_E} {d : Nat} {w : pw_W} {Q : Option Value → pw_W → Prop} {t : ct_T} (hw : w.1 = cs t) {x1 x2 : Int32} {r3 n3 : Nat} (hs3 : (cs t).2.1 r3 = (100, n3)) (hn3 : n3 < 2 ^ 31) 
    (k1 : px_W E mX0_isFree (d + 1) 0 0 3 [.ref 46, .int x1, .int x2, .ref r3, .int 0] [] w Q) :
    px_Call E (d + 1) 0 0 mX0_isFree [.ref 46, .int x1, .int x2, .ref r3] w Q :=
  px_enter (k := 1) (by decide) (Nat.le_of_ble_eq_true rfl) rfl (px_forget (bX0_isFree_0 hw hs3 hn3 k1) ⟨Or.inr rfl, Or.inr rfl, Or.inr rfl, Or.inr rfl, Or.inl rfl, trivial⟩)
theorem bX0_isFree_3 {E : px_E} {d : Nat} {w : pw_W} {Q : Option Value → pw_W → Prop} {t : ct_T} (hw : w.1 = cs t) {x1 x2 x4 : Int32} {r3 n3 : Nat} (hs3 : (cs t).2.1 r3 = (100, n3)) (hn3 : n3 < 2 ^ 31) 
    (k1 : x1 ≤ x4 → Q (some (.int 1)) w)
    (k2 : ¬ x1 ≤ x4 → px_W E mX0_isFree (d + 1) 0 0 9 [.ref 46, .int x1, .int x2, .ref r3, .int x4] [] w Q) :
    px_W E mX0_isFree (d + 1) 0 0 3 [.ref 46, .int x1, .int x2, .ref r3, .int x4] [] w Q := by
  refine px_iload dX0_isFree_3 rfl ?_
  refine px_iload_n dX0_isFree_5 rfl rfl ?_
  refine px_icmp_ge (tgt := 40) dX0_isFree_6 (by decide) (fun h1 => ?_) (fun h1 => ?_)
  ·
    refine px_iconst dX0_isFree_40 ic_1 ?_
    exact px_ireturn dX0_isFree_41 rfl (by decide) (k1 h1)
  ·
    exact (k2 h1)
theorem bX0_isFree_9 {E : px_E} {d : Nat} {w : pw_W} {Q : Option Value → pw_W → Prop} {t : ct_T} (hw : w.1 = cs t) {x1 x2 x4 : Int32} {r3 n3 : Nat} (hs3 : (cs t).2.1 r3 = (100, n3)) (hn3 : n3 < 2 ^ 31) (j1 : Nat) (hj1 : x4 = nI j1) (hl1 : j1 < n3)
    (k1 : ¬ (pw_I w r3 j1) = x2 → px_W E mX0_isFree (d + 1) 0 0 34 [.ref 46, .int x1, .int x2, .ref r3, .int x4] [] w Q)
    (k2 : (pw_I w r3 j1) = x2 → px_W E mX0_isFree (d + 1) 0 0 17 [.ref 46, .int x1, .int x2, .ref r3, .int x4] [] w Q) :
    px_W E mX0_isFree (d + 1) 0 0 9 [.ref 46, .int x1, .int x2, .ref r3, .int x4] [] w Q := by
  refine px_aload_n dX0_isFree_9 rfl rfl ?_
  refine px_iload dX0_isFree_10 rfl ?_
  refine px_iald dX0_isFree_12 (px_sh2 hw hs3) hn3 j1 hj1 hl1 ?_
  refine px_iload_n dX0_isFree_13 rfl rfl ?_
  refine px_icmp_ne (tgt := 34) dX0_isFree_14 (by decide) (fun h1 => ?_) (fun h1 => ?_)
  ·
    exact (k1 h1)
  ·
    exact (k2 h1)
theorem bX0_isFree_17 {E : px_E} {d : Nat} {w : pw_W} {Q : Option Value → pw_W → Prop} {t : ct_T} (hw : w.1 = cs t) {x1 x2 x4 : Int32} {r3 n3 : Nat} (hs3 : (cs t).2.1 r3 = (100, n3)) (hn3 : n3 < 2 ^ 31) (j1 : Nat) (hj1 : x1 = nI j1) (hl1 : j1 < 6)
    (k1 : ¬ ((js_shr (pw_I w 47 j1) x4) &&& 1) = 1 → px_W E mX0_isFree (d + 1) 0 0 34 [.ref 46, .int x1, .int x2, .ref r3, .int x4] [] w Q)
    (k2 : ((js_shr (pw_I w 47 j1) x4) &&& 1) = 1 → Q (some (.int 0)) w) :
    px_W E mX0_isFree (d + 1) 0 0 17 [.ref 46, .int x1, .int x2, .ref r3, .int x4] [] w Q := by
  refine px_aload_n dX0_isFree_17 rfl rfl ?_
  refine px_getR (v := 47) dX0_isFree_18 fr_0_9 rfl (px_sh1 hw sh_46) (px_rf hw rf_46_0) (by decide) ?_
  refine px_iload_n dX0_isFree_21 rfl rfl ?_
  refine px_iald dX0_isFree_22 (px_sh2 hw sh_47) (by decide) j1 hj1 hl1 ?_
  refine px_iload dX0_isFree_23 rfl ?_
  refine px_ishr dX0_isFree_25 ?_
  refine px_iconst dX0_isFree_26 ic_1 ?_
  refine px_iand dX0_isFree_27 ?_
  refine px_iconst dX0_isFree_28 ic_1 ?_
  refine px_icmp_ne (tgt := 34) dX0_isFree_29 (by decide) (fun h1 => ?_) (fun h1 => ?_)
  ·
    exact (k1 h1)
  ·
    refine px_iconst dX0_isFree_32 ic_0 ?_
    exact px_ireturn dX0_isFree_33 rfl (by decide) (k2 h1)
theorem bX0_isFree_34 {E : px_E} {d : Nat} {w : pw_W} {Q : Option Value → pw_W → Prop} {t : ct_T} (hw : w.1 = cs t) {x1 x2 x4 : Int32} {r3 n3 : Nat} (hs3 : (cs t).2.1 r3 = (100, n3)) (hn3 : n3 < 2 ^ 31) 
    (k1 : px_W E mX0_isFree (d + 1) 0 0 3 [.ref 46, .int x1, .int x2, .ref r3, .int (x4 + 1)] [] w Q) :
    px_W E mX0_isFree (d + 1) 0 0 34 [.ref 46, .int x1, .int x2, .ref r3, .int x4] [] w Q := by
  refine px_iinc (ls' := [.ref 46, .int x1, .int x2, .ref r3, .int (x4 + 1)]) dX0_isFree_34 ⟨by decide, rfl⟩ rfl rfl rfl ?_
  refine px_goto (tgt := 3) dX0_isFree_37 (by decide) ?_
  exact k1
theorem dX1_clear_0 : decode mX1_clear.2.1 0 = .ok (.aload_n 0, 1) := by decide +kernel
theorem dX1_clear_1 : decode mX1_clear.2.1 1 = .ok (.iconst 0, 1) := by decide +kernel
theorem dX1_clear_2 : decode mX1_clear.2.1 2 = .ok (.putfield 18, 3) := by decide +kernel
theorem dX1_clear_5 : decode mX1_clear.2.1 5 = .ok (.aload_n 0, 1) := by decide +kernel
theorem dX1_clear_6 : decode mX1_clear.2.1 6 = .ok (.iconst 0, 1) := by decide +kernel
theorem dX1_clear_7 : decode mX1_clear.2.1 7 = .ok (.putfield 22, 3) := by decide +kernel
theorem dX1_clear_10 : decode mX1_clear.2.1 10 = .ok (.return_, 1) := by decide +kernel
theorem bX1_clear_0 {E : px_E} {d : Nat} {w : pw_W} {Q : Option Value → pw_W → Prop} {t : ct_T} (hw : w.1 = cs t) {r0 : Nat} (hr0 : is_Formula r0) 
    (k1 : px_W E mX1_clear (d + 1) 0 0 10 [.null] [] (pw_sI (pw_sI w r0 2 0) r0 3 0) Q) :
    px_W E mX1_clear (d + 1) 0 0 0 [.ref r0] [] w Q := by
  refine px_aload_n dX1_clear_0 rfl rfl ?_
  refine px_iconst dX1_clear_1 ic_0 ?_
  refine px_putI dX1_clear_2 fl_1_18 (Or.inl rfl) rfl (px_sh1 hw hr0.sh) rfl rfl (by omega) ?_
  refine px_aload_n dX1_clear_5 rfl rfl ?_
  refine px_iconst dX1_clear_6 ic_0 ?_
  refine px_putI dX1_clear_7 fl_1_22 (Or.inl rfl) rfl (px_sh1 (hI hw) hr0.sh) rfl rfl (by omega) ?_
  exact px_forget k1 ⟨Or.inl rfl, trivial⟩
theorem eX1_clear {E : px_E} {d : Nat} {w : pw_W} {Q : Option Value → pw_W → Prop} {t : ct_T} (hw : w.1 = cs t) {r0 : Nat} (hr0 : is_Formula r0) 
    (k1 : px_W E mX1_clear (d + 1) 0 0 10 [.null] [] (pw_sI (pw_sI w r0 2 0) r0 3 0) Q) :
    px_Call E (d + 1) 0 0 mX1_clear [.ref r0] w Q :=
  px_enter (k := 0) (by decide) (Nat.le_of_ble_eq_true rfl) rfl (px_forget (bX1_clear_0 hw hr0 k1) ⟨Or.inr rfl, trivial⟩)
theorem bX1_clear_10 {E : px_E} {d : Nat} {w : pw_W} {Q : Option Value → pw_W → Prop} {t : ct_T} (hw : w.1 = cs t) {r0 : Nat} (hr0 : is_Formula r0) 
    (k1 : Q none w) :
    px_W E mX1_clear (d + 1) 0 0 10 [.null] [] w Q := by
  exact px_return dX1_clear_10 rfl k1
theorem dX1_setUntold_0 : decode mX1_setUntold.2.1 0 = .ok (.aload_n 0, 1) := by decide +kernel
theorem dX1_setUntold_1 : decode mX1_setUntold.2.1 1 = .ok (.invokevirtual 25, 3) := by decide +kernel
theorem dX1_setUntold_4 : decode mX1_setUntold.2.1 4 = .ok (.aload_n 0, 1) := by decide +kernel
theorem dX1_setUntold_5 : decode mX1_setUntold.2.1 5 = .ok (.bipush 9, 2) := by decide +kernel
theorem dX1_setUntold_7 : decode mX1_setUntold.2.1 7 = .ok (.invokevirtual 28, 3) := by decide +kernel
theorem dX1_setUntold_10 : decode mX1_setUntold.2.1 10 = .ok (.aload_n 0, 1) := by decide +kernel
theorem dX1_setUntold_11 : decode mX1_setUntold.2.1 11 = .ok (.iconst (-1), 1) := by decide +kernel
theorem dX1_setUntold_12 : decode mX1_setUntold.2.1 12 = .ok (.invokevirtual 28, 3) := by decide +kernel
theorem dX1_setUntold_15 : decode mX1_setUntold.2.1 15 = .ok (.aload_n 0, 1) := by decide +kernel
theorem dX1_setUntold_16 : decode mX1_setUntold.2.1 16 = .ok (.bipush (-13), 2) := by decide +kernel
theorem dX1_setUntold_18 : decode mX1_setUntold.2.1 18 = .ok (.invokevirtual 28, 3) := by decide +kernel
theorem dX1_setUntold_21 : decode mX1_setUntold.2.1 21 = .ok (.return_, 1) := by decide +kernel
theorem bX1_setUntold_0 {E : px_E} {d : Nat} {w : pw_W} {Q : Option Value → pw_W → Prop} {t : ct_T} (hw : w.1 = cs t) {r0 : Nat} (hr0 : is_Formula r0) 
    (k1 : px_Call E d 0 0 mX1_clear [.ref r0] w (fun v w' => px_W E mX1_setUntold (d + 1) 0 0 4 [.ref r0] (v.toList ++ []) w' Q)) :
    px_W E mX1_setUntold (d + 1) 0 0 0 [.ref r0] [] w Q := by
  refine px_aload_n dX1_setUntold_0 rfl rfl ?_
  exact px_callV (As := []) (st := []) (rc := 0) (rs := 0) (mc := 0) (ms := 0) dX1_setUntold_1 lk_1_25 (px_sh1 hw hr0.sh) rfl rfl (Nat.le_of_ble_eq_true rfl) k1
theorem eX1_setUntold {E : px_E} {d : Nat} {w : pw_W} {Q : Option Value → pw_W → Prop} {t : ct_T} (hw : w.1 = cs t) {r0 : Nat} (hr0 : is_Formula r0) 
    (k1 : px_Call E d 0 0 mX1_clear [.ref r0] w (fun v w' => px_W E mX1_setUntold (d + 1) 0 0 4 [.ref r0] (v.toList ++ []) w' Q)) :
    px_Call E (d + 1) 0 0 mX1_setUntold [.ref r0] w Q :=
  px_enter (k := 0) (by decide) (Nat.le_of_ble_eq_true rfl) rfl (px_forget (bX1_setUntold_0 hw hr0 k1) ⟨Or.inr rfl, trivial⟩)
theorem bX1_setUntold_4 {E : px_E} {d : Nat} {w : pw_W} {Q : Option Value → pw_W → Prop} {t : ct_T} (hw : w.1 = cs t) {r0 : Nat} (hr0 : is_Formula r0) 
    (k1 : px_Call E d 0 0 mX1_add [.ref r0, .int 9] w (fun v w' => px_W E mX1_setUntold (d + 1) 0 0 10 [.ref r0] (v.toList ++ []) w' Q)) :
    px_W E mX1_setUntold (d + 1) 0 0 4 [.ref r0] [] w Q := by
  refine px_aload_n dX1_setUntold_4 rfl rfl ?_
  refine px_bipush dX1_setUntold_5 bp_9 ?_
  exact px_callV (As := [.int 9]) (st := []) (rc := 0) (rs := 0) (mc := 0) (ms := 0) dX1_setUntold_7 lk_1_28 (px_sh1 hw hr0.sh) rfl rfl (Nat.le_of_ble_eq_true rfl) k1
theorem bX1_setUntold_10 {E : px_E} {d : Nat} {w : pw_W} {Q : Option Value → pw_W → Prop} {t : ct_T} (hw : w.1 = cs t) {r0 : Nat} (hr0 : is_Formula r0) 
    (k1 : px_Call E d 0 0 mX1_add [.ref r0, .int (-1)] w (fun v w' => px_W E mX1_setUntold (d + 1) 0 0 15 [.ref r0] (v.toList ++ []) w' Q)) :
    px_W E mX1_setUntold (d + 1) 0 0 10 [.ref r0] [] w Q := by
  refine px_aload_n dX1_setUntold_10 rfl rfl ?_
  refine px_iconst dX1_setUntold_11 ic_m1 ?_
  exact px_callV (As := [.int (-1)]) (st := []) (rc := 0) (rs := 0) (mc := 0) (ms := 0) dX1_setUntold_12 lk_1_28 (px_sh1 hw hr0.sh) rfl rfl (Nat.le_of_ble_eq_true rfl) k1
theorem bX1_setUntold_15 {E : px_E} {d : Nat} {w : pw_W} {Q : Option Value → pw_W → Prop} {t : ct_T} (hw : w.1 = cs t) {r0 : Nat} (hr0 : is_Formula r0) 
    (k1 : px_Call E d 0 0 mX1_add [.ref r0, .int (-13)] w (fun v w' => px_W E mX1_setUntold (d + 1) 0 0 21 [.null] (v.toList ++ []) w' Q)) :
    px_W E mX1_setUntold (d + 1) 0 0 15 [.ref r0] [] w Q := by
  refine px_aload_n dX1_setUntold_15 rfl rfl ?_
  refine px_bipush dX1_setUntold_16 bp_m13 ?_
  refine px_forget (ls' := [.null]) ?_ ⟨Or.inl rfl, trivial⟩
  exact px_callV (As := [.int (-13)]) (st := []) (rc := 0) (rs := 0) (mc := 0) (ms := 0) dX1_setUntold_18 lk_1_28 (px_sh1 hw hr0.sh) rfl rfl (Nat.le_of_ble_eq_true rfl) k1
theorem bX1_setUntold_21 {E : px_E} {d : Nat} {w : pw_W} {Q : Option Value → pw_W → Prop} {t : ct_T} (hw : w.1 = cs t) {r0 : Nat} (hr0 : is_Formula r0) 
    (k1 : Q none w) :
    px_W E mX1_setUntold (d + 1) 0 0 21 [.null] [] w Q := by
  exact px_return dX1_setUntold_21 rfl k1
theorem dX1_add_0 : decode mX1_add.2.1 0 = .ok (.aload_n 0, 1) := by decide +kernel
theorem dX1_add_1 : decode mX1_add.2.1 1 = .ok (.getfield 18, 3) := by decide +kernel
theorem dX1_add_4 : decode mX1_add.2.1 4 = .ok (.sipush 270, 3) := by decide +kernel
theorem dX1_add_7 : decode mX1_add.2.1 7 = .ok (.if_icmp .ge 23, 3) := by decide +kernel
theorem dX1_add_10 : decode mX1_add.2.1 10 = .ok (.aload_n 0, 1) := by decide +kernel
theorem dX1_add_11 : decode mX1_add.2.1 11 = .ok (.getfield 11, 3) := by decide +kernel
theorem dX1_add_14 : decode mX1_add.2.1 14 = .ok (.aload_n 0, 1) := by decide +kernel
theorem dX1_add_15 : decode mX1_add.2.1 15 = .ok (.getfield 18, 3) := by decide +kernel
theorem dX1_add_18 : decode mX1_add.2.1 18 = .ok (.iload_n 1, 1) := by decide +kernel
theorem dX1_add_19 : decode mX1_add.2.1 19 = .ok (.iastore, 1) := by decide +kernel
theorem dX1_add_20 : decode mX1_add.2.1 20 = .ok (.aload_n 0, 1) := by decide +kernel
theorem dX1_add_21 : decode mX1_add.2.1 21 = .ok (.dup, 1) := by decide +kernel
theorem dX1_add_22 : decode mX1_add.2.1 22 = .ok (.getfield 18, 3) := by decide +kernel
theorem dX1_add_25 : decode mX1_add.2.1 25 = .ok (.iconst 1, 1) := by decide +kernel
theorem dX1_add_26 : decode mX1_add.2.1 26 = .ok (.iadd, 1) := by decide +kernel
theorem dX1_add_27 : decode mX1_add.2.1 27 = .ok (.putfield 18, 3) := by decide +kernel
theorem dX1_add_30 : decode mX1_add.2.1 30 = .ok (.return_, 1) := by decide +kernel
theorem bX1_add_0 {E : px_E} {d : Nat} {w : pw_W} {Q : Option Value → pw_W → Prop} {t : ct_T} (hw : w.1 = cs t) {x1 : Int32} {r0 : Nat} (hr0 : is_Formula r0) 
    (k1 : 270 ≤ (pw_I w r0 2) → px_W E mX1_add (d + 1) 0 0 30 [.null, .null] [] w Q)
    (k2 : ¬ 270 ≤ (pw_I w r0 2) → px_W E mX1_add (d + 1) 0 0 10 [.ref r0, .int x1] [] w Q) :
    px_W E mX1_add (d + 1) 0 0 0 [.ref r0, .int x1] [] w Q := by
  refine px_aload_n dX1_add_0 rfl rfl ?_
  refine px_getI dX1_add_1 fr_1_18 rfl (px_sh1 hw hr0.sh) ?_
  refine px_sipush dX1_add_4 sp_270 ?_
  refine px_icmp_ge (tgt := 30) dX1_add_7 (by decide) (fun h1 => ?_) (fun h1 => ?_)
  ·
    exact px_forget (k1 h1) ⟨Or.inl rfl, Or.inl rfl, trivial⟩
  ·
    exact (k2 h1)
theorem eX1_add {E : px_E} {d : Nat} {w : pw_W} {Q : Option Value → pw_W → Prop} {t : ct_T} (hw : w.1 = cs t) {x1 : Int32} {r0 : Nat} (hr0 : is_Formula r0) 
    (k1 : 270 ≤ (pw_I w r0 2) → px_W E mX1_add (d + 1) 0 0 30 [.null, .null] [] w Q)
    (k2 : ¬ 270 ≤ (pw_I w r0 2) → px_W E mX1_add (d + 1) 0 0 10 [.ref r0, .int x1] [] w Q) :
    px_Call E (d + 1) 0 0 mX1_add [.ref r0, .int x1] w Q :=
  px_enter (k := 0) (by decide) (Nat.le_of_ble_eq_true rfl) rfl (px_forget (bX1_add_0 hw hr0 k1 k2) ⟨Or.inr rfl, Or.inr rfl, trivial⟩)
theorem bX1_add_10 {E : px_E} {d : Nat} {w : pw_W} {Q : Option Value → pw_W → Prop} {t : ct_T} (hw : w.1 = cs t) {x1 : Int32} {r0 : Nat} (hr0 : is_Formula r0) (j1 : Nat) (hj1 : (pw_I w r0 2) = nI j1) (hl1 : j1 < 270)
    (k1 : px_W E mX1_add (d + 1) 0 0 30 [.null, .null] [] (pw_sI (pw_sI w (r0 + 1) j1 x1) r0 2 ((pw_I (pw_sI w (r0 + 1) j1 x1) r0 2) + 1)) Q) :
    px_W E mX1_add (d + 1) 0 0 10 [.ref r0, .int x1] [] w Q := by
  refine px_aload_n dX1_add_10 rfl rfl ?_
  refine px_getR (v := (r0 + 1)) dX1_add_11 fr_1_11 rfl (px_sh1 hw hr0.sh) (px_rf hw hr0.rf0) (Nat.succ_ne_zero _) ?_
  refine px_aload_n dX1_add_14 rfl rfl ?_
  refine px_getI dX1_add_15 fr_1_18 rfl (px_sh1 hw hr0.sh) ?_
  refine px_iload_n dX1_add_18 rfl rfl ?_
  refine px_iast dX1_add_19 (px_sh2 hw hr0.sh1) (by decide) j1 hj1 hl1 (by omega) ?_
  refine px_aload_n dX1_add_20 rfl rfl ?_
  refine px_dup dX1_add_21 rfl ?_
  refine px_getI dX1_add_22 fr_1_18 rfl (px_sh1 (hI hw) hr0.sh) ?_
  refine px_iconst dX1_add_25 ic_1 ?_
  refine px_iadd dX1_add_26 ?_
  refine px_putI dX1_add_27 fl_1_18 (Or.inl rfl) rfl (px_sh1 (hI hw) hr0.sh) rfl rfl (by omega) ?_
  exact px_forget k1 ⟨Or.inl rfl, Or.inl rfl, trivial⟩
theorem bX1_add_30 {E : px_E} {d : Nat} {w : pw_W} {Q : Option Value → pw_W → Prop} {t : ct_T} (hw : w.1 = cs t) {r0 : Nat} (hr0 : is_Formula r0) 
    (k1 : Q none w) :
    px_W E mX1_add (d + 1) 0 0 30 [.null, .null] [] w Q := by
  exact px_return dX1_add_30 rfl k1
theorem dX1_lumpsLeft_0 : decode mX1_lumpsLeft.2.1 0 = .ok (.iconst 0, 1) := by decide +kernel
theorem dX1_lumpsLeft_1 : decode mX1_lumpsLeft.2.1 1 = .ok (.istore 5, 2) := by decide +kernel
theorem dX1_lumpsLeft_3 : decode mX1_lumpsLeft.2.1 3 = .ok (.iconst 0, 1) := by decide +kernel
theorem dX1_lumpsLeft_4 : decode mX1_lumpsLeft.2.1 4 = .ok (.istore 6, 2) := by decide +kernel
theorem dX1_lumpsLeft_6 : decode mX1_lumpsLeft.2.1 6 = .ok (.iload 6, 2) := by decide +kernel
theorem dX1_lumpsLeft_8 : decode mX1_lumpsLeft.2.1 8 = .ok (.aload_n 0, 1) := by decide +kernel
theorem dX1_lumpsLeft_9 : decode mX1_lumpsLeft.2.1 9 = .ok (.getfield 18, 3) := by decide +kernel
theorem dX1_lumpsLeft_12 : decode mX1_lumpsLeft.2.1 12 = .ok (.if_icmp .ge 152, 3) := by decide +kernel
theorem dX1_lumpsLeft_15 : decode mX1_lumpsLeft.2.1 15 = .ok (.aload_n 0, 1) := by decide +kernel
theorem dX1_lumpsLeft_16 : decode mX1_lumpsLeft.2.1 16 = .ok (.getfield 11, 3) := by decide +kernel
theorem dX1_lumpsLeft_19 : decode mX1_lumpsLeft.2.1 19 = .ok (.iload 6, 2) := by decide +kernel
theorem dX1_lumpsLeft_21 : decode mX1_lumpsLeft.2.1 21 = .ok (.iaload, 1) := by decide +kernel
theorem dX1_lumpsLeft_22 : decode mX1_lumpsLeft.2.1 22 = .ok (.istore 7, 2) := by decide +kernel
theorem dX1_lumpsLeft_24 : decode mX1_lumpsLeft.2.1 24 = .ok (.iload 7, 2) := by decide +kernel
theorem dX1_lumpsLeft_26 : decode mX1_lumpsLeft.2.1 26 = .ok (.bipush (-5), 2) := by decide +kernel
theorem dX1_lumpsLeft_28 : decode mX1_lumpsLeft.2.1 28 = .ok (.if_icmp .lt 45, 3) := by decide +kernel
theorem dX1_lumpsLeft_31 : decode mX1_lumpsLeft.2.1 31 = .ok (.iload 5, 2) := by decide +kernel
theorem dX1_lumpsLeft_33 : decode mX1_lumpsLeft.2.1 33 = .ok (.bipush 30, 2) := by decide +kernel
theorem dX1_lumpsLeft_35 : decode mX1_lumpsLeft.2.1 35 = .ok (.if_icmp .lt 5, 3) := by decide +kernel
theorem dX1_lumpsLeft_38 : decode mX1_lumpsLeft.2.1 38 = .ok (.iconst 0, 1) := by decide +kernel
theorem dX1_lumpsLeft_39 : decode mX1_lumpsLeft.2.1 39 = .ok (.ireturn, 1) := by decide +kernel
theorem dX1_lumpsLeft_40 : decode mX1_lumpsLeft.2.1 40 = .ok (.aload_n 0, 1) := by decide +kernel
theorem dX1_lumpsLeft_41 : decode mX1_lumpsLeft.2.1 41 = .ok (.getfield 15, 3) := by decide +kernel
theorem dX1_lumpsLeft_44 : decode mX1_lumpsLeft.2.1 44 = .ok (.iload 5, 2) := by decide +kernel
theorem dX1_lumpsLeft_46 : decode mX1_lumpsLeft.2.1 46 = .ok (.iload 7, 2) := by decide +kernel
theorem dX1_lumpsLeft_48 : decode mX1_lumpsLeft.2.1 48 = .ok (.ifCond .lt 8, 3) := by decide +kernel
theorem dX1_lumpsLeft_51 : decode mX1_lumpsLeft.2.1 51 = .ok (.iload 7, 2) := by decide +kernel
theorem dX1_lumpsLeft_53 : decode mX1_lumpsLeft.2.1 53 = .ok (.goto 13, 3) := by decide +kernel
theorem dX1_lumpsLeft_56 : decode mX1_lumpsLeft.2.1 56 = .ok (.iload 7, 2) := by decide +kernel
theorem dX1_lumpsLeft_58 : decode mX1_lumpsLeft.2.1 58 = .ok (.iload_n 1, 1) := by decide +kernel
theorem dX1_lumpsLeft_59 : decode mX1_lumpsLeft.2.1 59 = .ok (.iload_n 2, 1) := by decide +kernel
theorem dX1_lumpsLeft_60 : decode mX1_lumpsLeft.2.1 60 = .ok (.iload_n 3, 1) := by decide +kernel
theorem dX1_lumpsLeft_61 : decode mX1_lumpsLeft.2.1 61 = .ok (.iload 4, 2) := by decide +kernel
theorem dX1_lumpsLeft_63 : decode mX1_lumpsLeft.2.1 63 = .ok (.invokestatic 32, 3) := by decide +kernel
theorem dX1_lumpsLeft_66 : decode mX1_lumpsLeft.2.1 66 = .ok (.iastore, 1) := by decide +kernel
theorem dX1_lumpsLeft_67 : decode mX1_lumpsLeft.2.1 67 = .ok (.iinc 5 1, 3) := by decide +kernel
theorem dX1_lumpsLeft_70 : decode mX1_lumpsLeft.2.1 70 = .ok (.goto 88, 3) := by decide +kernel
theorem dX1_lumpsLeft_73 : decode mX1_lumpsLeft.2.1 73 = .ok (.iload 7, 2) := by decide +kernel
theorem dX1_lumpsLeft_75 : decode mX1_lumpsLeft.2.1 75 = .ok (.bipush (-6), 2) := by decide +kernel
theorem dX1_lumpsLeft_77 : decode mX1_lumpsLeft.2.1 77 = .ok (.if_icmp .ne 40, 3) := by decide +kernel
theorem dX1_lumpsLeft_80 : decode mX1_lumpsLeft.2.1 80 = .ok (.iload 5, 2) := by decide +kernel
theorem dX1_lumpsLeft_82 : decode mX1_lumpsLeft.2.1 82 = .ok (.iconst 1, 1) := by decide +kernel
theorem dX1_lumpsLeft_83 : decode mX1_lumpsLeft.2.1 83 = .ok (.if_icmp .ge 5, 3) := by decide +kernel
theorem dX1_lumpsLeft_86 : decode mX1_lumpsLeft.2.1 86 = .ok (.iconst 0, 1) := by decide +kernel
theorem dX1_lumpsLeft_87 : decode mX1_lumpsLeft.2.1 87 = .ok (.ireturn, 1) := by decide +kernel
theorem dX1_lumpsLeft_88 : decode mX1_lumpsLeft.2.1 88 = .ok (.aload_n 0, 1) := by decide +kernel
theorem dX1_lumpsLeft_89 : decode mX1_lumpsLeft.2.1 89 = .ok (.getfield 15, 3) := by decide +kernel
theorem dX1_lumpsLeft_92 : decode mX1_lumpsLeft.2.1 92 = .ok (.iload 5, 2) := by decide +kernel
theorem dX1_lumpsLeft_94 : decode mX1_lumpsLeft.2.1 94 = .ok (.iconst 1, 1) := by decide +kernel
theorem dX1_lumpsLeft_95 : decode mX1_lumpsLeft.2.1 95 = .ok (.isub, 1) := by decide +kernel
theorem dX1_lumpsLeft_96 : decode mX1_lumpsLeft.2.1 96 = .ok (.aload_n 0, 1) := by decide +kernel
theorem dX1_lumpsLeft_97 : decode mX1_lumpsLeft.2.1 97 = .ok (.getfield 15, 3) := by decide +kernel
theorem dX1_lumpsLeft_100 : decode mX1_lumpsLeft.2.1 100 = .ok (.iload 5, 2) := by decide +kernel
theorem dX1_lumpsLeft_102 : decode mX1_lumpsLeft.2.1 102 = .ok (.iconst 1, 1) := by decide +kernel
theorem dX1_lumpsLeft_103 : decode mX1_lumpsLeft.2.1 103 = .ok (.isub, 1) := by decide +kernel
theorem dX1_lumpsLeft_104 : decode mX1_lumpsLeft.2.1 104 = .ok (.iaload, 1) := by decide +kernel
theorem dX1_lumpsLeft_105 : decode mX1_lumpsLeft.2.1 105 = .ok (.ifCond .ne 7, 3) := by decide +kernel
theorem dX1_lumpsLeft_108 : decode mX1_lumpsLeft.2.1 108 = .ok (.iconst 1, 1) := by decide +kernel
theorem dX1_lumpsLeft_109 : decode mX1_lumpsLeft.2.1 109 = .ok (.goto 4, 3) := by decide +kernel
theorem dX1_lumpsLeft_112 : decode mX1_lumpsLeft.2.1 112 = .ok (.iconst 0, 1) := by decide +kernel
theorem dX1_lumpsLeft_113 : decode mX1_lumpsLeft.2.1 113 = .ok (.iastore, 1) := by decide +kernel
theorem dX1_lumpsLeft_114 : decode mX1_lumpsLeft.2.1 114 = .ok (.goto 44, 3) := by decide +kernel
theorem dX1_lumpsLeft_117 : decode mX1_lumpsLeft.2.1 117 = .ok (.iload 5, 2) := by decide +kernel
theorem dX1_lumpsLeft_119 : decode mX1_lumpsLeft.2.1 119 = .ok (.iconst 2, 1) := by decide +kernel
theorem dX1_lumpsLeft_120 : decode mX1_lumpsLeft.2.1 120 = .ok (.if_icmp .ge 5, 3) := by decide +kernel
theorem dX1_lumpsLeft_123 : decode mX1_lumpsLeft.2.1 123 = .ok (.iconst 0, 1) := by decide +kernel
theorem dX1_lumpsLeft_124 : decode mX1_lumpsLeft.2.1 124 = .ok (.ireturn, 1) := by decide +kernel
theorem dX1_lumpsLeft_125 : decode mX1_lumpsLeft.2.1 125 = .ok (.iinc 5 (-1), 3) := by decide +kernel
theorem dX1_lumpsLeft_128 : decode mX1_lumpsLeft.2.1 128 = .ok (.aload_n 0, 1) := by decide +kernel
theorem dX1_lumpsLeft_129 : decode mX1_lumpsLeft.2.1 129 = .ok (.getfield 15, 3) := by decide +kernel
theorem dX1_lumpsLeft_132 : decode mX1_lumpsLeft.2.1 132 = .ok (.iload 5, 2) := by decide +kernel
theorem dX1_lumpsLeft_134 : decode mX1_lumpsLeft.2.1 134 = .ok (.iconst 1, 1) := by decide +kernel
theorem dX1_lumpsLeft_135 : decode mX1_lumpsLeft.2.1 135 = .ok (.isub, 1) := by decide +kernel
theorem dX1_lumpsLeft_136 : decode mX1_lumpsLeft.2.1 136 = .ok (.iload 7, 2) := by decide +kernel
theorem dX1_lumpsLeft_138 : decode mX1_lumpsLeft.2.1 138 = .ok (.aload_n 0, 1) := by decide +kernel
theorem dX1_lumpsLeft_139 : decode mX1_lumpsLeft.2.1 139 = .ok (.getfield 15, 3) := by decide +kernel
theorem dX1_lumpsLeft_142 : decode mX1_lumpsLeft.2.1 142 = .ok (.iload 5, 2) := by decide +kernel
theorem dX1_lumpsLeft_144 : decode mX1_lumpsLeft.2.1 144 = .ok (.iconst 1, 1) := by decide +kernel
theorem dX1_lumpsLeft_145 : decode mX1_lumpsLeft.2.1 145 = .ok (.isub, 1) := by decide +kernel
theorem dX1_lumpsLeft_146 : decode mX1_lumpsLeft.2.1 146 = .ok (.iaload, 1) := by decide +kernel
theorem dX1_lumpsLeft_147 : decode mX1_lumpsLeft.2.1 147 = .ok (.aload_n 0, 1) := by decide +kernel
theorem dX1_lumpsLeft_148 : decode mX1_lumpsLeft.2.1 148 = .ok (.getfield 15, 3) := by decide +kernel
theorem dX1_lumpsLeft_151 : decode mX1_lumpsLeft.2.1 151 = .ok (.iload 5, 2) := by decide +kernel
theorem dX1_lumpsLeft_153 : decode mX1_lumpsLeft.2.1 153 = .ok (.iaload, 1) := by decide +kernel
theorem dX1_lumpsLeft_154 : decode mX1_lumpsLeft.2.1 154 = .ok (.invokestatic 36, 3) := by decide +kernel
theorem dX1_lumpsLeft_157 : decode mX1_lumpsLeft.2.1 157 = .ok (.iastore, 1) := by decide +kernel
theorem dX1_lumpsLeft_158 : decode mX1_lumpsLeft.2.1 158 = .ok (.iinc 6 1, 3) := by decide +kernel
theorem dX1_lumpsLeft_161 : decode mX1_lumpsLeft.2.1 161 = .ok (.goto (-155), 3) := by decide +kernel
theorem dX1_lumpsLeft_164 : decode mX1_lumpsLeft.2.1 164 = .ok (.iload 5, 2) := by decide +kernel
theorem dX1_lumpsLeft_166 : decode mX1_lumpsLeft.2.1 166 = .ok (.iconst 1, 1) := by decide +kernel
theorem dX1_lumpsLeft_167 : decode mX1_lumpsLeft.2.1 167 = .ok (.if_icmp .ne 21, 3) := by decide +kernel
theorem dX1_lumpsLeft_170 : decode mX1_lumpsLeft.2.1 170 = .ok (.iconst 0, 1) := by decide +kernel
theorem dX1_lumpsLeft_171 : decode mX1_lumpsLeft.2.1 171 = .ok (.bipush 20, 2) := by decide +kernel
theorem dX1_lumpsLeft_173 : decode mX1_lumpsLeft.2.1 173 = .ok (.aload_n 0, 1) := by decide +kernel
theorem dX1_lumpsLeft_174 : decode mX1_lumpsLeft.2.1 174 = .ok (.getfield 15, 3) := by decide +kernel
theorem dX1_lumpsLeft_177 : decode mX1_lumpsLeft.2.1 177 = .ok (.iconst 0, 1) := by decide +kernel
theorem dX1_lumpsLeft_178 : decode mX1_lumpsLeft.2.1 178 = .ok (.iaload, 1) := by decide +kernel
theorem dX1_lumpsLeft_179 : decode mX1_lumpsLeft.2.1 179 = .ok (.invokestatic 40, 3) := by decide +kernel
theorem dX1_lumpsLeft_182 : decode mX1_lumpsLeft.2.1 182 = .ok (.invokestatic 46, 3) := by decide +kernel
theorem dX1_lumpsLeft_185 : decode mX1_lumpsLeft.2.1 185 = .ok (.goto 4, 3) := by decide +kernel
theorem dX1_lumpsLeft_188 : decode mX1_lumpsLeft.2.1 188 = .ok (.iconst 0, 1) := by decide +kernel
theorem dX1_lumpsLeft_189 : decode mX1_lumpsLeft.2.1 189 = .ok (.ireturn, 1) := by decide +kernel
theorem bX1_lumpsLeft_0 {E : px_E} {d : Nat} {w : pw_W} {Q : Option Value → pw_W → Prop} {t : ct_T} (hw : w.1 = cs t) {x1 x2 x3 x4 : Int32} {r0 : Nat} (hr0 : is_Formula r0) 
    (k1 : px_W E mX1_lumpsLeft (d + 2) 0 0 6 [.ref r0, .int x1, .int x2, .int x3, .int x4, .int 0, .int 0, .null] [] w Q) :
    px_W E mX1_lumpsLeft (d + 2) 0 0 0 [.ref r0, .int x1, .int x2, .int x3, .int x4, .null, .null, .null] [] w Q := by
  refine px_iconst dX1_lumpsLeft_0 ic_0 ?_
  refine px_istore (ls' := [.ref r0, .int x1, .int x2, .int x3, .int x4, .int 0, .null, .null]) dX1_lumpsLeft_1 ⟨by decide, rfl⟩ rfl ?_
  refine px_iconst dX1_lumpsLeft_3 ic_0 ?_
  refine px_istore (ls' := [.ref r0, .int x1, .int x2, .int x3, .int x4, .int 0, .int 0, .null]) dX1_lumpsLeft_4 ⟨by decide, rfl⟩ rfl ?_
  exact k1
theorem eX1_lumpsLeft {E : px_E} {d : Nat} {w : pw_W} {Q : Option Value → pw_W → Prop} {t : ct_T} (hw : w.1 = cs t) {x1 x2 x3 x4 : Int32} {r0 : Nat} (hr0 : is_Formula r0) 
    (k1 : px_W E mX1_lumpsLeft (d + 2) 0 0 6 [.ref r0, .int x1, .int x2, .int x3, .int x4, .int 0, .int 0, .null] [] w Q) :
    px_Call E (d + 2) 0 0 mX1_lumpsLeft [.ref r0, .int x1, .int x2, .int x3, .int x4] w Q :=
  px_enter (k := 3) (by decide) (Nat.le_of_ble_eq_true rfl) rfl (px_forget (bX1_lumpsLeft_0 hw hr0 k1) ⟨Or.inr rfl, Or.inr rfl, Or.inr rfl, Or.inr rfl, Or.inr rfl, Or.inl rfl, Or.inl rfl, Or.inl rfl, trivial⟩)
theorem bX1_lumpsLeft_6 {E : px_E} {d : Nat} {w : pw_W} {Q : Option Value → pw_W → Prop} {t : ct_T} (hw : w.1 = cs t) {x1 x2 x3 x4 x5 x6 : Int32} {r0 : Nat} (hr0 : is_Formula r0) 
    (k1 : (pw_I w r0 2) ≤ x6 → ¬ x5 = 1 → px_W E mX1_lumpsLeft (d + 2) 0 0 189 [.null, .null, .null, .null, .null, .null, .null, .null] [.int 0] w Q)
    (k2 : (pw_I w r0 2) ≤ x6 → x5 = 1 → px_W E mX1_lumpsLeft (d + 2) 0 0 170 [.ref r0, .null, .null, .null, .null, .null, .null, .null] [] w Q)
    (k3 : ¬ (pw_I w r0 2) ≤ x6 → px_W E mX1_lumpsLeft (d + 2) 0 0 15 [.ref r0, .int x1, .int x2, .int x3, .int x4, .int x5, .int x6, .null] [] w Q) :
    px_W E mX1_lumpsLeft (d + 2) 0 0 6 [.ref r0, .int x1, .int x2, .int x3, .int x4, .int x5, .int x6, .null] [] w Q := by
  refine px_iload dX1_lumpsLeft_6 rfl ?_
  refine px_aload_n dX1_lumpsLeft_8 rfl rfl ?_
  refine px_getI dX1_lumpsLeft_9 fr_1_18 rfl (px_sh1 hw hr0.sh) ?_
  refine px_icmp_ge (tgt := 164) dX1_lumpsLeft_12 (by decide) (fun h1 => ?_) (fun h1 => ?_)
  ·
    refine px_iload dX1_lumpsLeft_164 rfl ?_
    refine px_iconst dX1_lumpsLeft_166 ic_1 ?_
    refine px_icmp_ne (tgt := 188) dX1_lumpsLeft_167 (by decide) (fun h2 => ?_) (fun h2 => ?_)
    ·
      refine px_iconst dX1_lumpsLeft_188 ic_0 ?_
      exact px_forget (k1 h1 h2) ⟨Or.inl rfl, Or.inl rfl, Or.inl rfl, Or.inl rfl, Or.inl rfl, Or.inl rfl, Or.inl rfl, Or.inl rfl, trivial⟩
    ·
      exact px_forget (k2 h1 h2) ⟨Or.inr rfl, Or.inl rfl, Or.inl rfl, Or.inl rfl, Or.inl rfl, Or.inl rfl, Or.inl rfl, Or.inl rfl, trivial⟩
  ·
    exact (k3 h1)
theorem bX1_lumpsLeft_15 {E : px_E} {d : Nat} {w : pw_W} {Q : Option Value → pw_W → Prop} {t : ct_T} (hw : w.1 = cs t) {x1 x2 x3 x4 x5 x6 : Int32} {r0 : Nat} (hr0 : is_Formula r0) (j1 : Nat) (hj1 : x6 = nI j1) (hl1 : j1 < 270)
    (k1 : (pw_I w (r0 + 1) j1) < (-5) → ¬ (pw_I w (r0 + 1) j1) = (-6) → 2 ≤ x5 → px_W E mX1_lumpsLeft (d + 2) 0 0 125 [.ref r0, .int x1, .int x2, .int x3, .int x4, .int x5, .int x6, .int (pw_I w (r0 + 1) j1)] [] w Q)
    (k2 : (pw_I w (r0 + 1) j1) < (-5) → ¬ (pw_I w (r0 + 1) j1) = (-6) → ¬ 2 ≤ x5 → Q (some (.int 0)) w)
    (k3 : (pw_I w (r0 + 1) j1) < (-5) → (pw_I w (r0 + 1) j1) = (-6) → 1 ≤ x5 → px_W E mX1_lumpsLeft (d + 2) 0 0 88 [.ref r0, .int x1, .int x2, .int x3, .int x4, .int x5, .int x6, .null] [] w Q)
    (k4 : (pw_I w (r0 + 1) j1) < (-5) → (pw_I w (r0 + 1) j1) = (-6) → ¬ 1 ≤ x5 → Q (some (.int 0)) w)
    (k5 : ¬ (pw_I w (r0 + 1) j1) < (-5) → x5 < 30 → (pw_I w (r0 + 1) j1) < 0 → px_W E mX1_lumpsLeft (d + 2) 0 0 66 [.ref r0, .int x1, .int x2, .int x3, .int x4, .int x5, .int x6, .null] [.int (hX1_known (pw_I w (r0 + 1) j1) x1 x2 x3 x4), .int x5, .ref (r0 + 2)] w Q)
    (k6 : ¬ (pw_I w (r0 + 1) j1) < (-5) → x5 < 30 → ¬ (pw_I w (r0 + 1) j1) < 0 → px_W E mX1_lumpsLeft (d + 2) 0 0 66 [.ref r0, .int x1, .int x2, .int x3, .int x4, .int x5, .int x6, .null] [.int (pw_I w (r0 + 1) j1), .int x5, .ref (r0 + 2)] w Q)
    (k7 : ¬ (pw_I w (r0 + 1) j1) < (-5) → ¬ x5 < 30 → Q (some (.int 0)) w) :
    px_W E mX1_lumpsLeft (d + 2) 0 0 15 [.ref r0, .int x1, .int x2, .int x3, .int x4, .int x5, .int x6, .null] [] w Q := by
  refine px_aload_n dX1_lumpsLeft_15 rfl rfl ?_
  refine px_getR (v := (r0 + 1)) dX1_lumpsLeft_16 fr_1_11 rfl (px_sh1 hw hr0.sh) (px_rf hw hr0.rf0) (Nat.succ_ne_zero _) ?_
  refine px_iload dX1_lumpsLeft_19 rfl ?_
  refine px_iald dX1_lumpsLeft_21 (px_sh2 hw hr0.sh1) (by decide) j1 hj1 hl1 ?_
  refine px_istore (ls' := [.ref r0, .int x1, .int x2, .int x3, .int x4, .int x5, .int x6, .int (pw_I w (r0 + 1) j1)]) dX1_lumpsLeft_22 ⟨by decide, rfl⟩ rfl ?_
  refine px_iload dX1_lumpsLeft_24 rfl ?_
  refine px_bipush dX1_lumpsLeft_26 bp_m5 ?_
  refine px_icmp_lt (tgt := 73) dX1_lumpsLeft_28 (by decide) (fun h1 => ?_) (fun h1 => ?_)
  ·
    refine px_iload dX1_lumpsLeft_73 rfl ?_
    refine px_bipush dX1_lumpsLeft_75 bp_m6 ?_
    refine px_icmp_ne (tgt := 117) dX1_lumpsLeft_77 (by decide) (fun h2 => ?_) (fun h2 => ?_)
    ·
      refine px_iload dX1_lumpsLeft_117 rfl ?_
      refine px_iconst dX1_lumpsLeft_119 ic_2 ?_
      refine px_icmp_ge (tgt := 125) dX1_lumpsLeft_120 (by decide) (fun h3 => ?_) (fun h3 => ?_)
      ·
        exact (k1 h1 h2 h3)
      ·
        refine px_iconst dX1_lumpsLeft_123 ic_0 ?_
        exact px_ireturn dX1_lumpsLeft_124 rfl rfl (k2 h1 h2 h3)
    ·
      refine px_iload dX1_lumpsLeft_80 rfl ?_
      refine px_iconst dX1_lumpsLeft_82 ic_1 ?_
      refine px_icmp_ge (tgt := 88) dX1_lumpsLeft_83 (by decide) (fun h4 => ?_) (fun h4 => ?_)
      ·
        exact px_forget (k3 h1 h2 h4) ⟨Or.inr rfl, Or.inr rfl, Or.inr rfl, Or.inr rfl, Or.inr rfl, Or.inr rfl, Or.inr rfl, Or.inl rfl, trivial⟩
      ·
        refine px_iconst dX1_lumpsLeft_86 ic_0 ?_
        exact px_ireturn dX1_lumpsLeft_87 rfl rfl (k4 h1 h2 h4)
  ·
    refine px_iload dX1_lumpsLeft_31 rfl ?_
    refine px_bipush dX1_lumpsLeft_33 bp_30 ?_
    refine px_icmp_lt (tgt := 40) dX1_lumpsLeft_35 (by decide) (fun h5 => ?_) (fun h5 => ?_)
    ·
      refine px_aload_n dX1_lumpsLeft_40 rfl rfl ?_
      refine px_getR (v := (r0 + 2)) dX1_lumpsLeft_41 fr_1_15 rfl (px_sh1 hw hr0.sh) (px_rf hw hr0.rf1) (Nat.succ_ne_zero _) ?_
      refine px_iload dX1_lumpsLeft_44 rfl ?_
      refine px_iload dX1_lumpsLeft_46 rfl ?_
      refine px_if_lt (tgt := 56) dX1_lumpsLeft_48 (by decide) (fun h6 => ?_) (fun h6 => ?_)
      ·
        refine px_iload dX1_lumpsLeft_56 rfl ?_
        refine px_iload_n dX1_lumpsLeft_58 rfl rfl ?_
        refine px_iload_n dX1_lumpsLeft_59 rfl rfl ?_
        refine px_iload_n dX1_lumpsLeft_60 rfl rfl ?_
        refine px_iload dX1_lumpsLeft_61 rfl ?_
        refine px_forget (ls' := [.ref r0, .int x1, .int x2, .int x3, .int x4, .int x5, .int x6, .null]) ?_ ⟨Or.inr rfl, Or.inr rfl, Or.inr rfl, Or.inr rfl, Or.inr rfl, Or.inr rfl, Or.inr rfl, Or.inl rfl, trivial⟩
        refine px_callS (As := [.int (pw_I w (r0 + 1) j1), .int x1, .int x2, .int x3, .int x4]) (st := [.int x5, .ref (r0 + 2)]) (rc := 0) (rs := 0) (mc := 0) (ms := 0) dX1_lumpsLeft_63 lk_1_32 rfl rfl (Nat.le_of_ble_eq_true rfl) (sX1_known ?_)
        show px_W E mX1_lumpsLeft (d + 2) 0 0 66 [.ref r0, .int x1, .int x2, .int x3, .int x4, .int x5, .int x6, .null] [.int (hX1_known (pw_I w (r0 + 1) j1) x1 x2 x3 x4), .int x5, .ref (r0 + 2)] w Q
        exact (k5 h1 h5 h6)
      ·
        refine px_iload dX1_lumpsLeft_51 rfl ?_
        refine px_goto (tgt := 66) dX1_lumpsLeft_53 (by decide) ?_
        exact px_forget (k6 h1 h5 h6) ⟨Or.inr rfl, Or.inr rfl, Or.inr rfl, Or.inr rfl, Or.inr rfl, Or.inr rfl, Or.inr rfl, Or.inl rfl, trivial⟩
    ·
      refine px_iconst dX1_lumpsLeft_38 ic_0 ?_
      exact px_ireturn dX1_lumpsLeft_39 rfl rfl (k7 h1 h5)
theorem bX1_lumpsLeft_66 {E : px_E} {d : Nat} {w : pw_W} {Q : Option Value → pw_W → Prop} {t : ct_T} (hw : w.1 = cs t) {x1 x2 x3 x4 x5 x6 y1 y2 : Int32} {r0 : Nat} (hr0 : is_Formula r0) (j1 : Nat) (hj1 : y1 = nI j1) (hl1 : j1 < 30)
    (k1 : px_W E mX1_lumpsLeft (d + 2) 0 0 158 [.ref r0, .int x1, .int x2, .int x3, .int x4, .int (x5 + 1), .int x6, .null] [] (pw_sI w (r0 + 2) j1 y2) Q) :
    px_W E mX1_lumpsLeft (d + 2) 0 0 66 [.ref r0, .int x1, .int x2, .int x3, .int x4, .int x5, .int x6, .null] [.int y2, .int y1, .ref (r0 + 2)] w Q := by
  refine px_iast dX1_lumpsLeft_66 (px_sh2 hw hr0.sh2) (by decide) j1 hj1 hl1 (by omega) ?_
  refine px_iinc (ls' := [.ref r0, .int x1, .int x2, .int x3, .int x4, .int (x5 + 1), .int x6, .null]) dX1_lumpsLeft_67 ⟨by decide, rfl⟩ rfl rfl rfl ?_
  refine px_goto (tgt := 158) dX1_lumpsLeft_70 (by decide) ?_
  exact k1
theorem bX1_lumpsLeft_88 {E : px_E} {d : Nat} {w : pw_W} {Q : Option Value → pw_W → Prop} {t : ct_T} (hw : w.1 = cs t) {x1 x2 x3 x4 x5 x6 : Int32} {r0 : Nat} (hr0 : is_Formula r0) (j1 : Nat) (hj1 : (x5 - 1) = nI j1) (hl1 : j1 < 30)
    (k1 : ¬ (pw_I w (r0 + 2) j1) = 0 → px_W E mX1_lumpsLeft (d + 2) 0 0 113 [.ref r0, .int x1, .int x2, .int x3, .int x4, .int x5, .int x6, .null] [.int 0, .int (x5 - 1), .ref (r0 + 2)] w Q)
    (k2 : (pw_I w (r0 + 2) j1) = 0 → px_W E mX1_lumpsLeft (d + 2) 0 0 113 [.ref r0, .int x1, .int x2, .int x3, .int x4, .int x5, .int x6, .null] [.int 1, .int (x5 - 1), .ref (r0 + 2)] w Q) :
    px_W E mX1_lumpsLeft (d + 2) 0 0 88 [.ref r0, .int x1, .int x2, .int x3, .int x4, .int x5, .int x6, .null] [] w Q := by
  refine px_aload_n dX1_lumpsLeft_88 rfl rfl ?_
  refine px_getR (v := (r0 + 2)) dX1_lumpsLeft_89 fr_1_15 rfl (px_sh1 hw hr0.sh) (px_rf hw hr0.rf1) (Nat.succ_ne_zero _) ?_
  refine px_iload dX1_lumpsLeft_92 rfl ?_
  refine px_iconst dX1_lumpsLeft_94 ic_1 ?_
  refine px_isub dX1_lumpsLeft_95 ?_
  refine px_aload_n dX1_lumpsLeft_96 rfl rfl ?_
  refine px_getR (v := (r0 + 2)) dX1_lumpsLeft_97 fr_1_15 rfl (px_sh1 hw hr0.sh) (px_rf hw hr0.rf1) (Nat.succ_ne_zero _) ?_
  refine px_iload dX1_lumpsLeft_100 rfl ?_
  refine px_iconst dX1_lumpsLeft_102 ic_1 ?_
  refine px_isub dX1_lumpsLeft_103 ?_
  refine px_iald dX1_lumpsLeft_104 (px_sh2 hw hr0.sh2) (by decide) j1 hj1 hl1 ?_
  refine px_if_ne (tgt := 112) dX1_lumpsLeft_105 (by decide) (fun h1 => ?_) (fun h1 => ?_)
  ·
    refine px_iconst dX1_lumpsLeft_112 ic_0 ?_
    exact (k1 h1)
  ·
    refine px_iconst dX1_lumpsLeft_108 ic_1 ?_
    refine px_goto (tgt := 113) dX1_lumpsLeft_109 (by decide) ?_
    exact (k2 h1)
theorem bX1_lumpsLeft_113 {E : px_E} {d : Nat} {w : pw_W} {Q : Option Value → pw_W → Prop} {t : ct_T} (hw : w.1 = cs t) {x1 x2 x3 x4 x5 x6 y1 y2 : Int32} {r0 : Nat} (hr0 : is_Formula r0) (j1 : Nat) (hj1 : y1 = nI j1) (hl1 : j1 < 30)
    (k1 : px_W E mX1_lumpsLeft (d + 2) 0 0 158 [.ref r0, .int x1, .int x2, .int x3, .int x4, .int x5, .int x6, .null] [] (pw_sI w (r0 + 2) j1 y2) Q) :
    px_W E mX1_lumpsLeft (d + 2) 0 0 113 [.ref r0, .int x1, .int x2, .int x3, .int x4, .int x5, .int x6, .null] [.int y2, .int y1, .ref (r0 + 2)] w Q := by
  refine px_iast dX1_lumpsLeft_113 (px_sh2 hw hr0.sh2) (by decide) j1 hj1 hl1 (by omega) ?_
  refine px_goto (tgt := 158) dX1_lumpsLeft_114 (by decide) ?_
  exact k1
theorem bX1_lumpsLeft_125 {E : px_E} {d : Nat} {w : pw_W} {Q : Option Value → pw_W → Prop} {t : ct_T} (hw : w.1 = cs t) {x1 x2 x3 x4 x5 x6 x7 : Int32} {r0 : Nat} (hr0 : is_Formula r0) (j1 : Nat) (hj1 : ((x5 + (-1)) - 1) = nI j1) (hl1 : j1 < 30) (j2 : Nat) (hj2 : (x5 + (-1)) = nI j2) (hl2 : j2 < 30)
    (k1 : px_W E mX1_lumpsLeft (d + 2) 0 0 158 [.ref r0, .int x1, .int x2, .int x3, .int x4, .int (x5 + (-1)), .int x6, .null] [] (pw_sI w (r0 + 2) j1 (hX1_joined x7 (pw_I w (r0 + 2) j1) (pw_I w (r0 + 2) j2))) Q) :
    px_W E mX1_lumpsLeft (d + 2) 0 0 125 [.ref r0, .int x1, .int x2, .int x3, .int x4, .int x5, .int x6, .int x7] [] w Q := by
  refine px_iinc (ls' := [.ref r0, .int x1, .int x2, .int x3, .int x4, .int (x5 + (-1)), .int x6, .int x7]) dX1_lumpsLeft_125 ⟨by decide, rfl⟩ rfl rfl rfl ?_
  refine px_aload_n dX1_lumpsLeft_128 rfl rfl ?_
  refine px_getR (v := (r0 + 2)) dX1_lumpsLeft_129 fr_1_15 rfl (px_sh1 hw hr0.sh) (px_rf hw hr0.rf1) (Nat.succ_ne_zero _) ?_
  refine px_iload dX1_lumpsLeft_132 rfl ?_
  refine px_iconst dX1_lumpsLeft_134 ic_1 ?_
  refine px_isub dX1_lumpsLeft_135 ?_
  refine px_iload dX1_lumpsLeft_136 rfl ?_
  refine px_aload_n dX1_lumpsLeft_138 rfl rfl ?_
  refine px_getR (v := (r0 + 2)) dX1_lumpsLeft_139 fr_1_15 rfl (px_sh1 hw hr0.sh) (px_rf hw hr0.rf1) (Nat.succ_ne_zero _) ?_
  refine px_iload dX1_lumpsLeft_142 rfl ?_
  refine px_iconst dX1_lumpsLeft_144 ic_1 ?_
  refine px_isub dX1_lumpsLeft_145 ?_
  refine px_iald dX1_lumpsLeft_146 (px_sh2 hw hr0.sh2) (by decide) j1 hj1 hl1 ?_
  refine px_aload_n dX1_lumpsLeft_147 rfl rfl ?_
  refine px_getR (v := (r0 + 2)) dX1_lumpsLeft_148 fr_1_15 rfl (px_sh1 hw hr0.sh) (px_rf hw hr0.rf1) (Nat.succ_ne_zero _) ?_
  refine px_iload dX1_lumpsLeft_151 rfl ?_
  refine px_iald dX1_lumpsLeft_153 (px_sh2 hw hr0.sh2) (by decide) j2 hj2 hl2 ?_
  refine px_forget (ls' := [.ref r0, .int x1, .int x2, .int x3, .int x4, .int (x5 + (-1)), .int x6, .null]) ?_ ⟨Or.inr rfl, Or.inr rfl, Or.inr rfl, Or.inr rfl, Or.inr rfl, Or.inr rfl, Or.inr rfl, Or.inl rfl, trivial⟩
  refine px_callS (As := [.int x7, .int (pw_I w (r0 + 2) j1), .int (pw_I w (r0 + 2) j2)]) (st := [.int ((x5 + (-1)) - 1), .ref (r0 + 2)]) (rc := 0) (rs := 0) (mc := 0) (ms := 0) dX1_lumpsLeft_154 lk_1_36 rfl rfl (Nat.le_of_ble_eq_true rfl) (sX1_joined ?_)
  show px_W E mX1_lumpsLeft (d + 2) 0 0 157 [.ref r0, .int x1, .int x2, .int x3, .int x4, .int (x5 + (-1)), .int x6, .null] [.int (hX1_joined x7 (pw_I w (r0 + 2) j1) (pw_I w (r0 + 2) j2)), .int ((x5 + (-1)) - 1), .ref (r0 + 2)] w Q
  refine px_iast dX1_lumpsLeft_157 (px_sh2 hw hr0.sh2) (by decide) j1 hj1 hl1 (by omega) ?_
  exact k1
theorem bX1_lumpsLeft_158 {E : px_E} {d : Nat} {w : pw_W} {Q : Option Value → pw_W → Prop} {t : ct_T} (hw : w.1 = cs t) {x1 x2 x3 x4 x5 x6 : Int32} {r0 : Nat} (hr0 : is_Formula r0) 
    (k1 : px_W E mX1_lumpsLeft (d + 2) 0 0 6 [.ref r0, .int x1, .int x2, .int x3, .int x4, .int x5, .int (x6 + 1), .null] [] w Q) :
    px_W E mX1_lumpsLeft (d + 2) 0 0 158 [.ref r0, .int x1, .int x2, .int x3, .int x4, .int x5, .int x6, .null] [] w Q := by
  refine px_iinc (ls' := [.ref r0, .int x1, .int x2, .int x3, .int x4, .int x5, .int (x6 + 1), .null]) dX1_lumpsLeft_158 ⟨by decide, rfl⟩ rfl rfl rfl ?_
  refine px_goto (tgt := 6) dX1_lumpsLeft_161 (by decide) ?_
  exact k1
theorem bX1_lumpsLeft_170 {E : px_E} {d : Nat} {w : pw_W} {Q : Option Value → pw_W → Prop} {t : ct_T} (hw : w.1 = cs t) {r0 : Nat} (hr0 : is_Formula r0) 
    (k1 : px_W E mX1_lumpsLeft (d + 2) 0 0 189 [.null, .null, .null, .null, .null, .null, .null, .null] [.int (js_max 0 (js_min 20 (pw_I w (r0 + 2) 0)))] w Q) :
    px_W E mX1_lumpsLeft (d + 2) 0 0 170 [.ref r0, .null, .null, .null, .null, .null, .null, .null] [] w Q := by
  refine px_iconst dX1_lumpsLeft_170 ic_0 ?_
  refine px_bipush dX1_lumpsLeft_171 bp_20 ?_
  refine px_aload_n dX1_lumpsLeft_173 rfl rfl ?_
  refine px_getR (v := (r0 + 2)) dX1_lumpsLeft_174 fr_1_15 rfl (px_sh1 hw hr0.sh) (px_rf hw hr0.rf1) (Nat.succ_ne_zero _) ?_
  refine px_iconst dX1_lumpsLeft_177 ic_0 ?_
  refine px_iald dX1_lumpsLeft_178 (px_sh2 hw hr0.sh2) (by decide) 0 rfl (by decide) ?_
  refine px_mmin dX1_lumpsLeft_179 (px_in4 26 rfl rfl) (Nat.le_of_ble_eq_true rfl) (by omega) ?_
  refine px_mmax dX1_lumpsLeft_182 (px_in4 27 rfl rfl) (Nat.le_of_ble_eq_true rfl) (by omega) ?_
  refine px_goto (tgt := 189) dX1_lumpsLeft_185 (by decide) ?_
  exact px_forget k1 ⟨Or.inl rfl, Or.inl rfl, Or.inl rfl, Or.inl rfl, Or.inl rfl, Or.inl rfl, Or.inl rfl, Or.inl rfl, trivial⟩
theorem bX1_lumpsLeft_189 {E : px_E} {d : Nat} {w : pw_W} {Q : Option Value → pw_W → Prop} {t : ct_T} (hw : w.1 = cs t) {y0 : Int32} {r0 : Nat} (hr0 : is_Formula r0) 
    (k1 : Q (some (.int y0)) w) :
    px_W E mX1_lumpsLeft (d + 2) 0 0 189 [.null, .null, .null, .null, .null, .null, .null, .null] [.int y0] w Q := by
  exact px_ireturn dX1_lumpsLeft_189 rfl rfl k1
theorem dX2_clear_0 : decode mX2_clear.2.1 0 = .ok (.aload_n 0, 1) := by decide +kernel
theorem dX2_clear_1 : decode mX2_clear.2.1 1 = .ok (.iconst 0, 1) := by decide +kernel
theorem dX2_clear_2 : decode mX2_clear.2.1 2 = .ok (.putfield 49, 3) := by decide +kernel
theorem dX2_clear_5 : decode mX2_clear.2.1 5 = .ok (.aload_n 0, 1) := by decide +kernel
theorem dX2_clear_6 : decode mX2_clear.2.1 6 = .ok (.iconst 0, 1) := by decide +kernel
theorem dX2_clear_7 : decode mX2_clear.2.1 7 = .ok (.putfield 53, 3) := by decide +kernel
theorem dX2_clear_10 : decode mX2_clear.2.1 10 = .ok (.aload_n 0, 1) := by decide +kernel
theorem dX2_clear_11 : decode mX2_clear.2.1 11 = .ok (.iconst 0, 1) := by decide +kernel
theorem dX2_clear_12 : decode mX2_clear.2.1 12 = .ok (.putfield 56, 3) := by decide +kernel
theorem dX2_clear_15 : decode mX2_clear.2.1 15 = .ok (.aload_n 0, 1) := by decide +kernel
theorem dX2_clear_16 : decode mX2_clear.2.1 16 = .ok (.bipush 40, 2) := by decide +kernel
theorem dX2_clear_18 : decode mX2_clear.2.1 18 = .ok (.putfield 59, 3) := by decide +kernel
theorem dX2_clear_21 : decode mX2_clear.2.1 21 = .ok (.aload_n 0, 1) := by decide +kernel
theorem dX2_clear_22 : decode mX2_clear.2.1 22 = .ok (.iconst 0, 1) := by decide +kernel
theorem dX2_clear_23 : decode mX2_clear.2.1 23 = .ok (.putfield 62, 3) := by decide +kernel
theorem dX2_clear_26 : decode mX2_clear.2.1 26 = .ok (.aload_n 0, 1) := by decide +kernel
theorem dX2_clear_27 : decode mX2_clear.2.1 27 = .ok (.iconst 0, 1) := by decide +kernel
theorem dX2_clear_28 : decode mX2_clear.2.1 28 = .ok (.putfield 65, 3) := by decide +kernel
theorem dX2_clear_31 : decode mX2_clear.2.1 31 = .ok (.aload_n 0, 1) := by decide +kernel
theorem dX2_clear_32 : decode mX2_clear.2.1 32 = .ok (.getfield 42, 3) := by decide +kernel
theorem dX2_clear_35 : decode mX2_clear.2.1 35 = .ok (.invokevirtual 68, 3) := by decide +kernel
theorem dX2_clear_38 : decode mX2_clear.2.1 38 = .ok (.return_, 1) := by decide +kernel
theorem bX2_clear_0 {E : px_E} {d : Nat} {w : pw_W} {Q : Option Value → pw_W → Prop} {t : ct_T} (hw : w.1 = cs t) {r0 : Nat} (hr0 : is_Hamlet r0) 
    (k1 : px_W E mX2_clear (d + 1) 0 0 10 [.ref r0] [] (pw_sI (pw_sI w r0 0 0) r0 4 0) Q) :
    px_W E mX2_clear (d + 1) 0 0 0 [.ref r0] [] w Q := by
  refine px_aload_n dX2_clear_0 rfl rfl ?_
  refine px_iconst dX2_clear_1 ic_0 ?_
  refine px_putI dX2_clear_2 fl_2_49 (Or.inl rfl) rfl (px_sh1 hw hr0.sh) rfl rfl (by omega) ?_
  refine px_aload_n dX2_clear_5 rfl rfl ?_
  refine px_iconst dX2_clear_6 ic_0 ?_
  refine px_putI dX2_clear_7 fl_2_53 (Or.inl rfl) rfl (px_sh1 (hI hw) hr0.sh) rfl rfl (by omega) ?_
  exact k1
theorem eX2_clear {E : px_E} {d : Nat} {w : pw_W} {Q : Option Value → pw_W → Prop} {t : ct_T} (hw : w.1 = cs t) {r0 : Nat} (hr0 : is_Hamlet r0) 
    (k1 : px_W E mX2_clear (d + 1) 0 0 10 [.ref r0] [] (pw_sI (pw_sI w r0 0 0) r0 4 0) Q) :
    px_Call E (d + 1) 0 0 mX2_clear [.ref r0] w Q :=
  px_enter (k := 0) (by decide) (Nat.le_of_ble_eq_true rfl) rfl (px_forget (bX2_clear_0 hw hr0 k1) ⟨Or.inr rfl, trivial⟩)
theorem bX2_clear_10 {E : px_E} {d : Nat} {w : pw_W} {Q : Option Value → pw_W → Prop} {t : ct_T} (hw : w.1 = cs t) {r0 : Nat} (hr0 : is_Hamlet r0) 
    (k1 : px_W E mX2_clear (d + 1) 0 0 21 [.ref r0] [] (pw_sI (pw_sI w r0 8 0) r0 12 40) Q) :
    px_W E mX2_clear (d + 1) 0 0 10 [.ref r0] [] w Q := by
  refine px_aload_n dX2_clear_10 rfl rfl ?_
  refine px_iconst dX2_clear_11 ic_0 ?_
  refine px_putI dX2_clear_12 fl_2_56 (Or.inl rfl) rfl (px_sh1 hw hr0.sh) rfl rfl (by omega) ?_
  refine px_aload_n dX2_clear_15 rfl rfl ?_
  refine px_bipush dX2_clear_16 bp_40 ?_
  refine px_putI dX2_clear_18 fl_2_59 (Or.inl rfl) rfl (px_sh1 (hI hw) hr0.sh) rfl rfl (by omega) ?_
  exact k1
theorem bX2_clear_21 {E : px_E} {d : Nat} {w : pw_W} {Q : Option Value → pw_W → Prop} {t : ct_T} (hw : w.1 = cs t) {r0 : Nat} (hr0 : is_Hamlet r0) 
    (k1 : px_W E mX2_clear (d + 1) 0 0 31 [.ref r0] [] (pw_sI (pw_sI w r0 13 0) r0 14 0) Q) :
    px_W E mX2_clear (d + 1) 0 0 21 [.ref r0] [] w Q := by
  refine px_aload_n dX2_clear_21 rfl rfl ?_
  refine px_iconst dX2_clear_22 ic_0 ?_
  refine px_putI dX2_clear_23 fl_2_62 (Or.inl rfl) rfl (px_sh1 hw hr0.sh) rfl rfl (by omega) ?_
  refine px_aload_n dX2_clear_26 rfl rfl ?_
  refine px_iconst dX2_clear_27 ic_0 ?_
  refine px_putI dX2_clear_28 fl_2_65 (Or.inl rfl) rfl (px_sh1 (hI hw) hr0.sh) rfl rfl (by omega) ?_
  exact k1
theorem bX2_clear_31 {E : px_E} {d : Nat} {w : pw_W} {Q : Option Value → pw_W → Prop} {t : ct_T} (hw : w.1 = cs t) {r0 : Nat} (hr0 : is_Hamlet r0) 
    (k1 : px_Call E d 0 0 mX1_setUntold [.ref (r0 + 10)] w (fun v w' => px_W E mX2_clear (d + 1) 0 0 38 [.null] (v.toList ++ []) w' Q)) :
    px_W E mX2_clear (d + 1) 0 0 31 [.ref r0] [] w Q := by
  refine px_aload_n dX2_clear_31 rfl rfl ?_
  refine px_getR (v := (r0 + 10)) dX2_clear_32 fr_2_42 rfl (px_sh1 hw hr0.sh) (px_rf hw hr0.rf15) (Nat.succ_ne_zero _) ?_
  refine px_forget (ls' := [.null]) ?_ ⟨Or.inl rfl, trivial⟩
  exact px_callV (As := []) (st := []) (rc := 0) (rs := 0) (mc := 0) (ms := 0) dX2_clear_35 lk_2_68 (px_sh1 hw hr0.is10.sh) rfl rfl (Nat.le_of_ble_eq_true rfl) k1
theorem bX2_clear_38 {E : px_E} {d : Nat} {w : pw_W} {Q : Option Value → pw_W → Prop} {t : ct_T} (hw : w.1 = cs t) {r0 : Nat} (hr0 : is_Hamlet r0) 
    (k1 : Q none w) :
    px_W E mX2_clear (d + 1) 0 0 38 [.null] [] w Q := by
  exact px_return dX2_clear_38 rfl k1
theorem dX2_abedBits_0 : decode mX2_abedBits.2.1 0 = .ok (.iconst 0, 1) := by decide +kernel
theorem dX2_abedBits_1 : decode mX2_abedBits.2.1 1 = .ok (.istore_n 2, 1) := by decide +kernel
theorem dX2_abedBits_2 : decode mX2_abedBits.2.1 2 = .ok (.iconst 0, 1) := by decide +kernel
theorem dX2_abedBits_3 : decode mX2_abedBits.2.1 3 = .ok (.istore_n 3, 1) := by decide +kernel
theorem dX2_abedBits_4 : decode mX2_abedBits.2.1 4 = .ok (.iload_n 3, 1) := by decide +kernel
theorem dX2_abedBits_5 : decode mX2_abedBits.2.1 5 = .ok (.aload_n 0, 1) := by decide +kernel
theorem dX2_abedBits_6 : decode mX2_abedBits.2.1 6 = .ok (.getfield 49, 3) := by decide +kernel
theorem dX2_abedBits_9 : decode mX2_abedBits.2.1 9 = .ok (.if_icmp .ge 24, 3) := by decide +kernel
theorem dX2_abedBits_12 : decode mX2_abedBits.2.1 12 = .ok (.aload_n 0, 1) := by decide +kernel
theorem dX2_abedBits_13 : decode mX2_abedBits.2.1 13 = .ok (.aload_n 1, 1) := by decide +kernel
theorem dX2_abedBits_14 : decode mX2_abedBits.2.1 14 = .ok (.iload_n 3, 1) := by decide +kernel
theorem dX2_abedBits_15 : decode mX2_abedBits.2.1 15 = .ok (.invokevirtual 74, 3) := by decide +kernel
theorem dX2_abedBits_18 : decode mX2_abedBits.2.1 18 = .ok (.ifCond .eq 9, 3) := by decide +kernel
theorem dX2_abedBits_21 : decode mX2_abedBits.2.1 21 = .ok (.iload_n 2, 1) := by decide +kernel
theorem dX2_abedBits_22 : decode mX2_abedBits.2.1 22 = .ok (.iconst 1, 1) := by decide +kernel
theorem dX2_abedBits_23 : decode mX2_abedBits.2.1 23 = .ok (.iload_n 3, 1) := by decide +kernel
theorem dX2_abedBits_24 : decode mX2_abedBits.2.1 24 = .ok (.ishl, 1) := by decide +kernel
theorem dX2_abedBits_25 : decode mX2_abedBits.2.1 25 = .ok (.ior, 1) := by decide +kernel
theorem dX2_abedBits_26 : decode mX2_abedBits.2.1 26 = .ok (.istore_n 2, 1) := by decide +kernel
theorem dX2_abedBits_27 : decode mX2_abedBits.2.1 27 = .ok (.iinc 3 1, 3) := by decide +kernel
theorem dX2_abedBits_30 : decode mX2_abedBits.2.1 30 = .ok (.goto (-26), 3) := by decide +kernel
theorem dX2_abedBits_33 : decode mX2_abedBits.2.1 33 = .ok (.iload_n 2, 1) := by decide +kernel
theorem dX2_abedBits_34 : decode mX2_abedBits.2.1 34 = .ok (.ireturn, 1) := by decide +kernel
theorem bX2_abedBits_0 {E : px_E} {d : Nat} {w : pw_W} {Q : Option Value → pw_W → Prop} {t : ct_T} (hw : w.1 = cs t) {r0 : Nat} (hr0 : is_Hamlet r0) {r1 : Nat} (hr1 : is_State r1) 
    (k1 : px_W E mX2_abedBits (d + 2) 0 0 4 [.ref r0, .ref r1, .int 0, .int 0] [] w Q) :
    px_W E mX2_abedBits (d + 2) 0 0 0 [.ref r0, .ref r1, .null, .null] [] w Q := by
  refine px_iconst dX2_abedBits_0 ic_0 ?_
  refine px_istore_n (ls' := [.ref r0, .ref r1, .int 0, .null]) dX2_abedBits_1 rfl ⟨by decide, rfl⟩ rfl ?_
  refine px_iconst dX2_abedBits_2 ic_0 ?_
  refine px_istore_n (ls' := [.ref r0, .ref r1, .int 0, .int 0]) dX2_abedBits_3 rfl ⟨by decide, rfl⟩ rfl ?_
  exact k1
theorem eX2_abedBits {E : px_E} {d : Nat} {w : pw_W} {Q : Option Value → pw_W → Prop} {t : ct_T} (hw : w.1 = cs t) {r0 : Nat} (hr0 : is_Hamlet r0) {r1 : Nat} (hr1 : is_State r1) 
    (k1 : px_W E mX2_abedBits (d + 2) 0 0 4 [.ref r0, .ref r1, .int 0, .int 0] [] w Q) :
    px_Call E (d + 2) 0 0 mX2_abedBits [.ref r0, .ref r1] w Q :=
  px_enter (k := 2) (by decide) (Nat.le_of_ble_eq_true rfl) rfl (px_forget (bX2_abedBits_0 hw hr0 hr1 k1) ⟨Or.inr rfl, Or.inr rfl, Or.inl rfl, Or.inl rfl, trivial⟩)
theorem bX2_abedBits_4 {E : px_E} {d : Nat} {w : pw_W} {Q : Option Value → pw_W → Prop} {t : ct_T} (hw : w.1 = cs t) {x2 x3 : Int32} {r0 : Nat} (hr0 : is_Hamlet r0) {r1 : Nat} (hr1 : is_State r1) 
    (k1 : (pw_I w r0 0) ≤ x3 → Q (some (.int x2)) w)
    (k2 : ¬ (pw_I w r0 0) ≤ x3 → px_W E mX2_abedBits (d + 2) 0 0 12 [.ref r0, .ref r1, .int x2, .int x3] [] w Q) :
    px_W E mX2_abedBits (d + 2) 0 0 4 [.ref r0, .ref r1, .int x2, .int x3] [] w Q := by
  refine px_iload_n dX2_abedBits_4 rfl rfl ?_
  refine px_aload_n dX2_abedBits_5 rfl rfl ?_
  refine px_getI dX2_abedBits_6 fr_2_49 rfl (px_sh1 hw hr0.sh) ?_
  refine px_icmp_ge (tgt := 33) dX2_abedBits_9 (by decide) (fun h1 => ?_) (fun h1 => ?_)
  ·
    refine px_iload_n dX2_abedBits_33 rfl rfl ?_
    exact px_ireturn dX2_abedBits_34 rfl rfl (k1 h1)
  ·
    exact (k2 h1)
theorem bX2_abedBits_12 {E : px_E} {d : Nat} {w : pw_W} {Q : Option Value → pw_W → Prop} {t : ct_T} (hw : w.1 = cs t) {x2 x3 : Int32} {r0 : Nat} (hr0 : is_Hamlet r0) {r1 : Nat} (hr1 : is_State r1) (j1 : Nat) (hj1 : x3 = nI j1) (hl1 : j1 < 6)
    (k1 : ¬ (pX2_liesAbed w r0 r1 x3 j1) → px_W E mX2_abedBits (d + 2) 0 0 27 [.ref r0, .ref r1, .int x2, .int x3] [] w Q)
    (k2 : (pX2_liesAbed w r0 r1 x3 j1) → px_W E mX2_abedBits (d + 2) 0 0 27 [.ref r0, .ref r1, .int (x2 ||| (js_shl 1 x3)), .int x3] [] w Q) :
    px_W E mX2_abedBits (d + 2) 0 0 12 [.ref r0, .ref r1, .int x2, .int x3] [] w Q := by
  refine px_aload_n dX2_abedBits_12 rfl rfl ?_
  refine px_aload_n dX2_abedBits_13 rfl rfl ?_
  refine px_iload_n dX2_abedBits_14 rfl rfl ?_
  refine px_callV (As := [.ref r1, .int x3]) (st := []) (rc := 0) (rs := 0) (mc := 0) (ms := 0) dX2_abedBits_15 lk_2_74 (px_sh1 hw hr0.sh) rfl rfl (Nat.le_of_ble_eq_true rfl) (sX2_liesAbed (w := w) hw hr0 hr1 j1 hj1 hl1 ?_)
  show px_W E mX2_abedBits (d + 2) 0 0 18 [.ref r0, .ref r1, .int x2, .int x3] [.int (jb (pX2_liesAbed w r0 r1 x3 j1))] w Q
  refine px_jb_eq (tgt := 27) dX2_abedBits_18 (by decide) (fun h1 => ?_) (fun h1 => ?_)
  ·
    exact (k1 h1)
  ·
    refine px_iload_n dX2_abedBits_21 rfl rfl ?_
    refine px_iconst dX2_abedBits_22 ic_1 ?_
    refine px_iload_n dX2_abedBits_23 rfl rfl ?_
    refine px_ishl dX2_abedBits_24 ?_
    refine px_ior dX2_abedBits_25 ?_
    refine px_istore_n (ls' := [.ref r0, .ref r1, .int (x2 ||| (js_shl 1 x3)), .int x3]) dX2_abedBits_26 rfl ⟨by decide, rfl⟩ rfl ?_
    exact (k2 h1)
theorem bX2_abedBits_27 {E : px_E} {d : Nat} {w : pw_W} {Q : Option Value → pw_W → Prop} {t : ct_T} (hw : w.1 = cs t) {x2 x3 : Int32} {r0 : Nat} (hr0 : is_Hamlet r0) {r1 : Nat} (hr1 : is_State r1) 
    (k1 : px_W E mX2_abedBits (d + 2) 0 0 4 [.ref r0, .ref r1, .int x2, .int (x3 + 1)] [] w Q) :
    px_W E mX2_abedBits (d + 2) 0 0 27 [.ref r0, .ref r1, .int x2, .int x3] [] w Q := by
  refine px_iinc (ls' := [.ref r0, .ref r1, .int x2, .int (x3 + 1)]) dX2_abedBits_27 ⟨by decide, rfl⟩ rfl rfl rfl ?_
  refine px_goto (tgt := 4) dX2_abedBits_30 (by decide) ?_
  exact k1
theorem dX2_allLumps_0 : decode mX2_allLumps.2.1 0 = .ok (.iconst 0, 1) := by decide +kernel
theorem dX2_allLumps_1 : decode mX2_allLumps.2.1 1 = .ok (.istore_n 2, 1) := by decide +kernel
theorem dX2_allLumps_2 : decode mX2_allLumps.2.1 2 = .ok (.iconst 0, 1) := by decide +kernel
theorem dX2_allLumps_3 : decode mX2_allLumps.2.1 3 = .ok (.istore_n 3, 1) := by decide +kernel
theorem dX2_allLumps_4 : decode mX2_allLumps.2.1 4 = .ok (.iload_n 3, 1) := by decide +kernel
theorem dX2_allLumps_5 : decode mX2_allLumps.2.1 5 = .ok (.aload_n 0, 1) := by decide +kernel
theorem dX2_allLumps_6 : decode mX2_allLumps.2.1 6 = .ok (.getfield 49, 3) := by decide +kernel
theorem dX2_allLumps_9 : decode mX2_allLumps.2.1 9 = .ok (.if_icmp .ge 18, 3) := by decide +kernel
theorem dX2_allLumps_12 : decode mX2_allLumps.2.1 12 = .ok (.iload_n 2, 1) := by decide +kernel
theorem dX2_allLumps_13 : decode mX2_allLumps.2.1 13 = .ok (.aload_n 1, 1) := by decide +kernel
theorem dX2_allLumps_14 : decode mX2_allLumps.2.1 14 = .ok (.getfield 71, 3) := by decide +kernel
theorem dX2_allLumps_17 : decode mX2_allLumps.2.1 17 = .ok (.iload_n 3, 1) := by decide +kernel
theorem dX2_allLumps_18 : decode mX2_allLumps.2.1 18 = .ok (.iaload, 1) := by decide +kernel
theorem dX2_allLumps_19 : decode mX2_allLumps.2.1 19 = .ok (.iadd, 1) := by decide +kernel
theorem dX2_allLumps_20 : decode mX2_allLumps.2.1 20 = .ok (.istore_n 2, 1) := by decide +kernel
theorem dX2_allLumps_21 : decode mX2_allLumps.2.1 21 = .ok (.iinc 3 1, 3) := by decide +kernel
theorem dX2_allLumps_24 : decode mX2_allLumps.2.1 24 = .ok (.goto (-20), 3) := by decide +kernel
theorem dX2_allLumps_27 : decode mX2_allLumps.2.1 27 = .ok (.iload_n 2, 1) := by decide +kernel
theorem dX2_allLumps_28 : decode mX2_allLumps.2.1 28 = .ok (.ireturn, 1) := by decide +kernel
theorem bX2_allLumps_0 {E : px_E} {d : Nat} {w : pw_W} {Q : Option Value → pw_W → Prop} {t : ct_T} (hw : w.1 = cs t) {r0 : Nat} (hr0 : is_Hamlet r0) {r1 : Nat} (hr1 : is_State r1) 
    (k1 : px_W E mX2_allLumps (d + 1) 0 0 4 [.ref r0, .ref r1, .int 0, .int 0] [] w Q) :
    px_W E mX2_allLumps (d + 1) 0 0 0 [.ref r0, .ref r1, .null, .null] [] w Q := by
  refine px_iconst dX2_allLumps_0 ic_0 ?_
  refine px_istore_n (ls' := [.ref r0, .ref r1, .int 0, .null]) dX2_allLumps_1 rfl ⟨by decide, rfl⟩ rfl ?_
  refine px_iconst dX2_allLumps_2 ic_0 ?_
  refine px_istore_n (ls' := [.ref r0, .ref r1, .int 0, .int 0]) dX2_allLumps_3 rfl ⟨by decide, rfl⟩ rfl ?_
  exact k1
theorem eX2_allLumps {E : px_E} {d : Nat} {w : pw_W} {Q : Option Value → pw_W → Prop} {t : ct_T} (hw : w.1 = cs t) {r0 : Nat} (hr0 : is_Hamlet r0) {r1 : Nat} (hr1 : is_State r1) 
    (k1 : px_W E mX2_allLumps (d + 1) 0 0 4 [.ref r0, .ref r1, .int 0, .int 0] [] w Q) :
    px_Call E (d + 1) 0 0 mX2_allLumps [.ref r0, .ref r1] w Q :=
  px_enter (k := 2) (by decide) (Nat.le_of_ble_eq_true rfl) rfl (px_forget (bX2_allLumps_0 hw hr0 hr1 k1) ⟨Or.inr rfl, Or.inr rfl, Or.inl rfl, Or.inl rfl, trivial⟩)
theorem bX2_allLumps_4 {E : px_E} {d : Nat} {w : pw_W} {Q : Option Value → pw_W → Prop} {t : ct_T} (hw : w.1 = cs t) {x2 x3 : Int32} {r0 : Nat} (hr0 : is_Hamlet r0) {r1 : Nat} (hr1 : is_State r1) 
    (k1 : (pw_I w r0 0) ≤ x3 → Q (some (.int x2)) w)
    (k2 : ¬ (pw_I w r0 0) ≤ x3 → px_W E mX2_allLumps (d + 1) 0 0 12 [.ref r0, .ref r1, .int x2, .int x3] [] w Q) :
    px_W E mX2_allLumps (d + 1) 0 0 4 [.ref r0, .ref r1, .int x2, .int x3] [] w Q := by
  refine px_iload_n dX2_allLumps_4 rfl rfl ?_
  refine px_aload_n dX2_allLumps_5 rfl rfl ?_
  refine px_getI dX2_allLumps_6 fr_2_49 rfl (px_sh1 hw hr0.sh) ?_
  refine px_icmp_ge (tgt := 27) dX2_allLumps_9 (by decide) (fun h1 => ?_) (fun h1 => ?_)
  ·
    refine px_iload_n dX2_allLumps_27 rfl rfl ?_
    exact px_ireturn dX2_allLumps_28 rfl rfl (k1 h1)
  ·
    exact (k2 h1)
theorem bX2_allLumps_12 {E : px_E} {d : Nat} {w : pw_W} {Q : Option Value → pw_W → Prop} {t : ct_T} (hw : w.1 = cs t) {x2 x3 : Int32} {r0 : Nat} (hr0 : is_Hamlet r0) {r1 : Nat} (hr1 : is_State r1) (j1 : Nat) (hj1 : x3 = nI j1) (hl1 : j1 < 6)
    (k1 : px_W E mX2_allLumps (d + 1) 0 0 4 [.ref r0, .ref r1, .int (x2 + (pw_I w (r1 + 1) j1)), .int (x3 + 1)] [] w Q) :
    px_W E mX2_allLumps (d + 1) 0 0 12 [.ref r0, .ref r1, .int x2, .int x3] [] w Q := by
  refine px_iload_n dX2_allLumps_12 rfl rfl ?_
  refine px_aload_n dX2_allLumps_13 rfl rfl ?_
  refine px_getR (v := (r1 + 1)) dX2_allLumps_14 fr_2_71 rfl (px_sh1 hw hr1.sh) (px_rf hw hr1.rf0) (Nat.succ_ne_zero _) ?_
  refine px_iload_n dX2_allLumps_17 rfl rfl ?_
  refine px_iald dX2_allLumps_18 (px_sh2 hw hr1.sh1) (by decide) j1 hj1 hl1 ?_
  refine px_iadd dX2_allLumps_19 ?_
  refine px_istore_n (ls' := [.ref r0, .ref r1, .int (x2 + (pw_I w (r1 + 1) j1)), .int x3]) dX2_allLumps_20 rfl ⟨by decide, rfl⟩ rfl ?_
  refine px_iinc (ls' := [.ref r0, .ref r1, .int (x2 + (pw_I w (r1 + 1) j1)), .int (x3 + 1)]) dX2_allLumps_21 ⟨by decide, rfl⟩ rfl rfl rfl ?_
  refine px_goto (tgt := 4) dX2_allLumps_24 (by decide) ?_
  exact k1
theorem dX2_allFirm_0 : decode mX2_allFirm.2.1 0 = .ok (.iconst 0, 1) := by decide +kernel
theorem dX2_allFirm_1 : decode mX2_allFirm.2.1 1 = .ok (.istore_n 2, 1) := by decide +kernel
theorem dX2_allFirm_2 : decode mX2_allFirm.2.1 2 = .ok (.iconst 0, 1) := by decide +kernel
theorem dX2_allFirm_3 : decode mX2_allFirm.2.1 3 = .ok (.istore_n 3, 1) := by decide +kernel
theorem dX2_allFirm_4 : decode mX2_allFirm.2.1 4 = .ok (.iload_n 3, 1) := by decide +kernel
theorem dX2_allFirm_5 : decode mX2_allFirm.2.1 5 = .ok (.aload_n 0, 1) := by decide +kernel
theorem dX2_allFirm_6 : decode mX2_allFirm.2.1 6 = .ok (.getfield 49, 3) := by decide +kernel
theorem dX2_allFirm_9 : decode mX2_allFirm.2.1 9 = .ok (.if_icmp .ge 18, 3) := by decide +kernel
theorem dX2_allFirm_12 : decode mX2_allFirm.2.1 12 = .ok (.iload_n 2, 1) := by decide +kernel
theorem dX2_allFirm_13 : decode mX2_allFirm.2.1 13 = .ok (.aload_n 1, 1) := by decide +kernel
theorem dX2_allFirm_14 : decode mX2_allFirm.2.1 14 = .ok (.getfield 78, 3) := by decide +kernel
theorem dX2_allFirm_17 : decode mX2_allFirm.2.1 17 = .ok (.iload_n 3, 1) := by decide +kernel
theorem dX2_allFirm_18 : decode mX2_allFirm.2.1 18 = .ok (.iaload, 1) := by decide +kernel
theorem dX2_allFirm_19 : decode mX2_allFirm.2.1 19 = .ok (.iadd, 1) := by decide +kernel
theorem dX2_allFirm_20 : decode mX2_allFirm.2.1 20 = .ok (.istore_n 2, 1) := by decide +kernel
theorem dX2_allFirm_21 : decode mX2_allFirm.2.1 21 = .ok (.iinc 3 1, 3) := by decide +kernel
theorem dX2_allFirm_24 : decode mX2_allFirm.2.1 24 = .ok (.goto (-20), 3) := by decide +kernel
theorem dX2_allFirm_27 : decode mX2_allFirm.2.1 27 = .ok (.iload_n 2, 1) := by decide +kernel
theorem dX2_allFirm_28 : decode mX2_allFirm.2.1 28 = .ok (.ireturn, 1) := by decide +kernel
theorem bX2_allFirm_0 {E : px_E} {d : Nat} {w : pw_W} {Q : Option Value → pw_W → Prop} {t : ct_T} (hw : w.1 = cs t) {r0 : Nat} (hr0 : is_Hamlet r0) {r1 : Nat} (hr1 : is_State r1) 
    (k1 : px_W E mX2_allFirm (d + 1) 0 0 4 [.ref r0, .ref r1, .int 0, .int 0] [] w Q) :
    px_W E mX2_allFirm (d + 1) 0 0 0 [.ref r0, .ref r1, .null, .null] [] w Q := by
  refine px_iconst dX2_allFirm_0 ic_0 ?_
  refine px_istore_n (ls' := [.ref r0, .ref r1, .int 0, .null]) dX2_allFirm_1 rfl ⟨by decide, rfl⟩ rfl ?_
  refine px_iconst dX2_allFirm_2 ic_0 ?_
  refine px_istore_n (ls' := [.ref r0, .ref r1, .int 0, .int 0]) dX2_allFirm_3 rfl ⟨by decide, rfl⟩ rfl ?_
  exact k1
theorem eX2_allFirm {E : px_E} {d : Nat} {w : pw_W} {Q : Option Value → pw_W → Prop} {t : ct_T} (hw : w.1 = cs t) {r0 : Nat} (hr0 : is_Hamlet r0) {r1 : Nat} (hr1 : is_State r1) 
    (k1 : px_W E mX2_allFirm (d + 1) 0 0 4 [.ref r0, .ref r1, .int 0, .int 0] [] w Q) :
    px_Call E (d + 1) 0 0 mX2_allFirm [.ref r0, .ref r1] w Q :=
  px_enter (k := 2) (by decide) (Nat.le_of_ble_eq_true rfl) rfl (px_forget (bX2_allFirm_0 hw hr0 hr1 k1) ⟨Or.inr rfl, Or.inr rfl, Or.inl rfl, Or.inl rfl, trivial⟩)
theorem bX2_allFirm_4 {E : px_E} {d : Nat} {w : pw_W} {Q : Option Value → pw_W → Prop} {t : ct_T} (hw : w.1 = cs t) {x2 x3 : Int32} {r0 : Nat} (hr0 : is_Hamlet r0) {r1 : Nat} (hr1 : is_State r1) 
    (k1 : (pw_I w r0 0) ≤ x3 → Q (some (.int x2)) w)
    (k2 : ¬ (pw_I w r0 0) ≤ x3 → px_W E mX2_allFirm (d + 1) 0 0 12 [.ref r0, .ref r1, .int x2, .int x3] [] w Q) :
    px_W E mX2_allFirm (d + 1) 0 0 4 [.ref r0, .ref r1, .int x2, .int x3] [] w Q := by
  refine px_iload_n dX2_allFirm_4 rfl rfl ?_
  refine px_aload_n dX2_allFirm_5 rfl rfl ?_
  refine px_getI dX2_allFirm_6 fr_2_49 rfl (px_sh1 hw hr0.sh) ?_
  refine px_icmp_ge (tgt := 27) dX2_allFirm_9 (by decide) (fun h1 => ?_) (fun h1 => ?_)
  ·
    refine px_iload_n dX2_allFirm_27 rfl rfl ?_
    exact px_ireturn dX2_allFirm_28 rfl rfl (k1 h1)
  ·
    exact (k2 h1)
theorem bX2_allFirm_12 {E : px_E} {d : Nat} {w : pw_W} {Q : Option Value → pw_W → Prop} {t : ct_T} (hw : w.1 = cs t) {x2 x3 : Int32} {r0 : Nat} (hr0 : is_Hamlet r0) {r1 : Nat} (hr1 : is_State r1) (j1 : Nat) (hj1 : x3 = nI j1) (hl1 : j1 < 6)
    (k1 : px_W E mX2_allFirm (d + 1) 0 0 4 [.ref r0, .ref r1, .int (x2 + (pw_I w (r1 + 2) j1)), .int (x3 + 1)] [] w Q) :
    px_W E mX2_allFirm (d + 1) 0 0 12 [.ref r0, .ref r1, .int x2, .int x3] [] w Q := by
  refine px_iload_n dX2_allFirm_12 rfl rfl ?_
  refine px_aload_n dX2_allFirm_13 rfl rfl ?_
  refine px_getR (v := (r1 + 2)) dX2_allFirm_14 fr_2_78 rfl (px_sh1 hw hr1.sh) (px_rf hw hr1.rf1) (Nat.succ_ne_zero _) ?_
  refine px_iload_n dX2_allFirm_17 rfl rfl ?_
  refine px_iald dX2_allFirm_18 (px_sh2 hw hr1.sh2) (by decide) j1 hj1 hl1 ?_
  refine px_iadd dX2_allFirm_19 ?_
  refine px_istore_n (ls' := [.ref r0, .ref r1, .int (x2 + (pw_I w (r1 + 2) j1)), .int x3]) dX2_allFirm_20 rfl ⟨by decide, rfl⟩ rfl ?_
  refine px_iinc (ls' := [.ref r0, .ref r1, .int (x2 + (pw_I w (r1 + 2) j1)), .int (x3 + 1)]) dX2_allFirm_21 ⟨by decide, rfl⟩ rfl rfl rfl ?_
  refine px_goto (tgt := 4) dX2_allFirm_24 (by decide) ?_
  exact k1
theorem dX2_takesPlace_0 : decode mX2_takesPlace.2.1 0 = .ok (.aload_n 1, 1) := by decide +kernel
theorem dX2_takesPlace_1 : decode mX2_takesPlace.2.1 1 = .ok (.getfield 79, 3) := by decide +kernel
theorem dX2_takesPlace_4 : decode mX2_takesPlace.2.1 4 = .ok (.bipush 7, 2) := by decide +kernel
theorem dX2_takesPlace_6 : decode mX2_takesPlace.2.1 6 = .ok (.irem, 1) := by decide +kernel
theorem dX2_takesPlace_7 : decode mX2_takesPlace.2.1 7 = .ok (.aload_n 0, 1) := by decide +kernel
theorem dX2_takesPlace_8 : decode mX2_takesPlace.2.1 8 = .ok (.getfield 27, 3) := by decide +kernel
theorem dX2_takesPlace_11 : decode mX2_takesPlace.2.1 11 = .ok (.iload_n 2, 1) := by decide +kernel
theorem dX2_takesPlace_12 : decode mX2_takesPlace.2.1 12 = .ok (.iaload, 1) := by decide +kernel
theorem dX2_takesPlace_13 : decode mX2_takesPlace.2.1 13 = .ok (.if_icmp .ne 43, 3) := by decide +kernel
theorem dX2_takesPlace_16 : decode mX2_takesPlace.2.1 16 = .ok (.aload_n 1, 1) := by decide +kernel
theorem dX2_takesPlace_17 : decode mX2_takesPlace.2.1 17 = .ok (.iload_n 2, 1) := by decide +kernel
theorem dX2_takesPlace_18 : decode mX2_takesPlace.2.1 18 = .ok (.invokevirtual 82, 3) := by decide +kernel
theorem dX2_takesPlace_21 : decode mX2_takesPlace.2.1 21 = .ok (.ifCond .ne 35, 3) := by decide +kernel
theorem dX2_takesPlace_24 : decode mX2_takesPlace.2.1 24 = .ok (.aload_n 0, 1) := by decide +kernel
theorem dX2_takesPlace_25 : decode mX2_takesPlace.2.1 25 = .ok (.aload_n 1, 1) := by decide +kernel
theorem dX2_takesPlace_26 : decode mX2_takesPlace.2.1 26 = .ok (.aload_n 0, 1) := by decide +kernel
theorem dX2_takesPlace_27 : decode mX2_takesPlace.2.1 27 = .ok (.getfield 21, 3) := by decide +kernel
theorem dX2_takesPlace_30 : decode mX2_takesPlace.2.1 30 = .ok (.iload_n 2, 1) := by decide +kernel
theorem dX2_takesPlace_31 : decode mX2_takesPlace.2.1 31 = .ok (.iaload, 1) := by decide +kernel
theorem dX2_takesPlace_32 : decode mX2_takesPlace.2.1 32 = .ok (.invokevirtual 74, 3) := by decide +kernel
theorem dX2_takesPlace_35 : decode mX2_takesPlace.2.1 35 = .ok (.ifCond .ne 21, 3) := by decide +kernel
theorem dX2_takesPlace_38 : decode mX2_takesPlace.2.1 38 = .ok (.aload_n 0, 1) := by decide +kernel
theorem dX2_takesPlace_39 : decode mX2_takesPlace.2.1 39 = .ok (.aload_n 1, 1) := by decide +kernel
theorem dX2_takesPlace_40 : decode mX2_takesPlace.2.1 40 = .ok (.aload_n 0, 1) := by decide +kernel
theorem dX2_takesPlace_41 : decode mX2_takesPlace.2.1 41 = .ok (.getfield 24, 3) := by decide +kernel
theorem dX2_takesPlace_44 : decode mX2_takesPlace.2.1 44 = .ok (.iload_n 2, 1) := by decide +kernel
theorem dX2_takesPlace_45 : decode mX2_takesPlace.2.1 45 = .ok (.iaload, 1) := by decide +kernel
theorem dX2_takesPlace_46 : decode mX2_takesPlace.2.1 46 = .ok (.invokevirtual 74, 3) := by decide +kernel
theorem dX2_takesPlace_49 : decode mX2_takesPlace.2.1 49 = .ok (.ifCond .ne 7, 3) := by decide +kernel
theorem dX2_takesPlace_52 : decode mX2_takesPlace.2.1 52 = .ok (.iconst 1, 1) := by decide +kernel
theorem dX2_takesPlace_53 : decode mX2_takesPlace.2.1 53 = .ok (.goto 4, 3) := by decide +kernel
theorem dX2_takesPlace_56 : decode mX2_takesPlace.2.1 56 = .ok (.iconst 0, 1) := by decide +kernel
theorem dX2_takesPlace_57 : decode mX2_takesPlace.2.1 57 = .ok (.ireturn, 1) := by decide +kernel
theorem bX2_takesPlace_0 {E : px_E} {d : Nat} {w : pw_W} {Q : Option Value → pw_W → Prop} {t : ct_T} (hw : w.1 = cs t) {x2 : Int32} {r0 : Nat} (hr0 : is_Hamlet r0) {r1 : Nat} (hr1 : is_State r1) (j1 : Nat) (hj1 : x2 = nI j1) (hl1 : j1 < 9)
    (k1 : ¬ (js_rem (pw_I w r1 3) 7) = (pw_I w (r0 + 6) j1) → px_W E mX2_takesPlace (d + 2) 0 0 56 [.null, .null, .null] [] w Q)
    (k2 : (js_rem (pw_I w r1 3) 7) = (pw_I w (r0 + 6) j1) → (pX8_isForbidden w r1 x2) → px_W E mX2_takesPlace (d + 2) 0 0 56 [.null, .null, .null] [] w Q)
    (k3 : (js_rem (pw_I w r1 3) 7) = (pw_I w (r0 + 6) j1) → ¬ (pX8_isForbidden w r1 x2) → px_W E mX2_takesPlace (d + 2) 0 0 24 [.ref r0, .ref r1, .int x2] [] w Q) :
    px_W E mX2_takesPlace (d + 2) 0 0 0 [.ref r0, .ref r1, .int x2] [] w Q := by
  refine px_aload_n dX2_takesPlace_0 rfl rfl ?_
  refine px_getI dX2_takesPlace_1 fr_2_79 rfl (px_sh1 hw hr1.sh) ?_
  refine px_bipush dX2_takesPlace_4 bp_7 ?_
  refine px_irem dX2_takesPlace_6 (by decide) ?_
  refine px_aload_n dX2_takesPlace_7 rfl rfl ?_
  refine px_getR (v := (r0 + 6)) dX2_takesPlace_8 fr_2_27 rfl (px_sh1 hw hr0.sh) (px_rf hw hr0.rf7) (Nat.succ_ne_zero _) ?_
  refine px_iload_n dX2_takesPlace_11 rfl rfl ?_
  refine px_iald dX2_takesPlace_12 (px_sh2 hw hr0.sh6) (by decide) j1 hj1 hl1 ?_
  refine px_icmp_ne (tgt := 56) dX2_takesPlace_13 (by decide) (fun h1 => ?_) (fun h1 => ?_)
  ·
    exact px_forget (k1 h1) ⟨Or.inl rfl, Or.inl rfl, Or.inl rfl, trivial⟩
  ·
    refine px_aload_n dX2_takesPlace_16 rfl rfl ?_
    refine px_iload_n dX2_takesPlace_17 rfl rfl ?_
    refine px_callV (As := [.int x2]) (st := []) (rc := 0) (rs := 0) (mc := 0) (ms := 0) dX2_takesPlace_18 lk_2_82 (px_sh1 hw hr1.sh) rfl rfl (Nat.le_of_ble_eq_true rfl) (sX8_isForbidden (w := w) hw hr1 ?_)
    show px_W E mX2_takesPlace (d + 2) 0 0 21 [.ref r0, .ref r1, .int x2] [.int (jb (pX8_isForbidden w r1 x2))] w Q
    refine px_jb_ne (tgt := 56) dX2_takesPlace_21 (by decide) (fun h2 => ?_) (fun h2 => ?_)
    ·
      exact px_forget (k2 h1 h2) ⟨Or.inl rfl, Or.inl rfl, Or.inl rfl, trivial⟩
    ·
      exact (k3 h1 h2)
theorem eX2_takesPlace {E : px_E} {d : Nat} {w : pw_W} {Q : Option Value → pw_W → Prop} {t : ct_T} (hw : w.1 = cs t) {x2 : Int32} {r0 : Nat} (hr0 : is_Hamlet r0) {r1 : Nat} (hr1 : is_State r1) (j1 : Nat) (hj1 : x2 = nI j1) (hl1 : j1 < 9)
    (k1 : ¬ (js_rem (pw_I w r1 3) 7) = (pw_I w (r0 + 6) j1) → px_W E mX2_takesPlace (d + 2) 0 0 56 [.null, .null, .null] [] w Q)
    (k2 : (js_rem (pw_I w r1 3) 7) = (pw_I w (r0 + 6) j1) → (pX8_isForbidden w r1 x2) → px_W E mX2_takesPlace (d + 2) 0 0 56 [.null, .null, .null] [] w Q)
    (k3 : (js_rem (pw_I w r1 3) 7) = (pw_I w (r0 + 6) j1) → ¬ (pX8_isForbidden w r1 x2) → px_W E mX2_takesPlace (d + 2) 0 0 24 [.ref r0, .ref r1, .int x2] [] w Q) :
    px_Call E (d + 2) 0 0 mX2_takesPlace [.ref r0, .ref r1, .int x2] w Q :=
  px_enter (k := 0) (by decide) (Nat.le_of_ble_eq_true rfl) rfl (px_forget (bX2_takesPlace_0 hw hr0 hr1 j1 hj1 hl1 k1 k2 k3) ⟨Or.inr rfl, Or.inr rfl, Or.inr rfl, trivial⟩)
theorem bX2_takesPlace_24 {E : px_E} {d : Nat} {w : pw_W} {Q : Option Value → pw_W → Prop} {t : ct_T} (hw : w.1 = cs t) {x2 : Int32} {r0 : Nat} (hr0 : is_Hamlet r0) {r1 : Nat} (hr1 : is_State r1) (j1 : Nat) (hj1 : x2 = nI j1) (hl1 : j1 < 9) (j2 : Nat) (hj2 : (pw_I w (r0 + 4) j1) = nI j2) (hl2 : j2 < 6)
    (k1 : (pX2_liesAbed w r0 r1 (pw_I w (r0 + 4) j1) j2) → px_W E mX2_takesPlace (d + 2) 0 0 56 [.null, .null, .null] [] w Q)
    (k2 : ¬ (pX2_liesAbed w r0 r1 (pw_I w (r0 + 4) j1) j2) → px_W E mX2_takesPlace (d + 2) 0 0 38 [.ref r0, .ref r1, .int x2] [] w Q) :
    px_W E mX2_takesPlace (d + 2) 0 0 24 [.ref r0, .ref r1, .int x2] [] w Q := by
  refine px_aload_n dX2_takesPlace_24 rfl rfl ?_
  refine px_aload_n dX2_takesPlace_25 rfl rfl ?_
  refine px_aload_n dX2_takesPlace_26 rfl rfl ?_
  refine px_getR (v := (r0 + 4)) dX2_takesPlace_27 fr_2_21 rfl (px_sh1 hw hr0.sh) (px_rf hw hr0.rf5) (Nat.succ_ne_zero _) ?_
  refine px_iload_n dX2_takesPlace_30 rfl rfl ?_
  refine px_iald dX2_takesPlace_31 (px_sh2 hw hr0.sh4) (by decide) j1 hj1 hl1 ?_
  refine px_callV (As := [.ref r1, .int (pw_I w (r0 + 4) j1)]) (st := []) (rc := 0) (rs := 0) (mc := 0) (ms := 0) dX2_takesPlace_32 lk_2_74 (px_sh1 hw hr0.sh) rfl rfl (Nat.le_of_ble_eq_true rfl) (sX2_liesAbed (w := w) hw hr0 hr1 j2 hj2 hl2 ?_)
  show px_W E mX2_takesPlace (d + 2) 0 0 35 [.ref r0, .ref r1, .int x2] [.int (jb (pX2_liesAbed w r0 r1 (pw_I w (r0 + 4) j1) j2))] w Q
  refine px_jb_ne (tgt := 56) dX2_takesPlace_35 (by decide) (fun h1 => ?_) (fun h1 => ?_)
  ·
    exact px_forget (k1 h1) ⟨Or.inl rfl, Or.inl rfl, Or.inl rfl, trivial⟩
  ·
    exact (k2 h1)
theorem bX2_takesPlace_38 {E : px_E} {d : Nat} {w : pw_W} {Q : Option Value → pw_W → Prop} {t : ct_T} (hw : w.1 = cs t) {x2 : Int32} {r0 : Nat} (hr0 : is_Hamlet r0) {r1 : Nat} (hr1 : is_State r1) (j1 : Nat) (hj1 : x2 = nI j1) (hl1 : j1 < 9) (j2 : Nat) (hj2 : (pw_I w (r0 + 5) j1) = nI j2) (hl2 : j2 < 6)
    (k1 : (pX2_liesAbed w r0 r1 (pw_I w (r0 + 5) j1) j2) → px_W E mX2_takesPlace (d + 2) 0 0 56 [.null, .null, .null] [] w Q)
    (k2 : ¬ (pX2_liesAbed w r0 r1 (pw_I w (r0 + 5) j1) j2) → px_W E mX2_takesPlace (d + 2) 0 0 57 [.null, .null, .null] [.int 1] w Q) :
    px_W E mX2_takesPlace (d + 2) 0 0 38 [.ref r0, .ref r1, .int x2] [] w Q := by
  refine px_aload_n dX2_takesPlace_38 rfl rfl ?_
  refine px_aload_n dX2_takesPlace_39 rfl rfl ?_
  refine px_aload_n dX2_takesPlace_40 rfl rfl ?_
  refine px_getR (v := (r0 + 5)) dX2_takesPlace_41 fr_2_24 rfl (px_sh1 hw hr0.sh) (px_rf hw hr0.rf6) (Nat.succ_ne_zero _) ?_
  refine px_iload_n dX2_takesPlace_44 rfl rfl ?_
  refine px_iald dX2_takesPlace_45 (px_sh2 hw hr0.sh5) (by decide) j1 hj1 hl1 ?_
  refine px_forget (ls' := [.null, .null, .null]) ?_ ⟨Or.inl rfl, Or.inl rfl, Or.inl rfl, trivial⟩
  refine px_callV (As := [.ref r1, .int (pw_I w (r0 + 5) j1)]) (st := []) (rc := 0) (rs := 0) (mc := 0) (ms := 0) dX2_takesPlace_46 lk_2_74 (px_sh1 hw hr0.sh) rfl rfl (Nat.le_of_ble_eq_true rfl) (sX2_liesAbed (w := w) hw hr0 hr1 j2 hj2 hl2 ?_)
  show px_W E mX2_takesPlace (d + 2) 0 0 49 [.null, .null, .null] [.int (jb (pX2_liesAbed w r0 r1 (pw_I w (r0 + 5) j1) j2))] w Q
  refine px_jb_ne (tgt := 56) dX2_takesPlace_49 (by decide) (fun h1 => ?_) (fun h1 => ?_)
  ·
    exact (k1 h1)
  ·
    refine px_iconst dX2_takesPlace_52 ic_1 ?_
    refine px_goto (tgt := 57) dX2_takesPlace_53 (by decide) ?_
    exact (k2 h1)
theorem bX2_takesPlace_56 {E : px_E} {d : Nat} {w : pw_W} {Q : Option Value → pw_W → Prop} {t : ct_T} (hw : w.1 = cs t) {r0 : Nat} (hr0 : is_Hamlet r0) {r1 : Nat} (hr1 : is_State r1) 
    (k1 : px_W E mX2_takesPlace (d + 2) 0 0 57 [.null, .null, .null] [.int 0] w Q) :
    px_W E mX2_takesPlace (d + 2) 0 0 56 [.null, .null, .null] [] w Q := by
  refine px_iconst dX2_takesPlace_56 ic_0 ?_
  exact k1
theorem bX2_takesPlace_57 {E : px_E} {d : Nat} {w : pw_W} {Q : Option Value → pw_W → Prop} {t : ct_T} (hw : w.1 = cs t) {y0 : Int32} {r0 : Nat} (hr0 : is_Hamlet r0) {r1 : Nat} (hr1 : is_State r1) (hb1 : y0 = 0 ∨ y0 = 1)
    (k1 : Q (some (.int y0)) w) :
    px_W E mX2_takesPlace (d + 2) 0 0 57 [.null, .null, .null] [.int y0] w Q := by
  exact px_ireturn dX2_takesPlace_57 rfl (px_nb (hb1)) k1
theorem dX2_coolOne_0 : decode mX2_coolOne.2.1 0 = .ok (.aload_n 1, 1) := by decide +kernel
theorem dX2_coolOne_1 : decode mX2_coolOne.2.1 1 = .ok (.getfield 71, 3) := by decide +kernel
theorem dX2_coolOne_4 : decode mX2_coolOne.2.1 4 = .ok (.iload_n 3, 1) := by decide +kernel
theorem dX2_coolOne_5 : decode mX2_coolOne.2.1 5 = .ok (.iconst 0, 1) := by decide +kernel
theorem dX2_coolOne_6 : decode mX2_coolOne.2.1 6 = .ok (.aload_n 1, 1) := by decide +kernel
theorem dX2_coolOne_7 : decode mX2_coolOne.2.1 7 = .ok (.getfield 71, 3) := by decide +kernel
theorem dX2_coolOne_10 : decode mX2_coolOne.2.1 10 = .ok (.iload_n 3, 1) := by decide +kernel
theorem dX2_coolOne_11 : decode mX2_coolOne.2.1 11 = .ok (.iaload, 1) := by decide +kernel
theorem dX2_coolOne_12 : decode mX2_coolOne.2.1 12 = .ok (.aload_n 0, 1) := by decide +kernel
theorem dX2_coolOne_13 : decode mX2_coolOne.2.1 13 = .ok (.getfield 30, 3) := by decide +kernel
theorem dX2_coolOne_16 : decode mX2_coolOne.2.1 16 = .ok (.iload_n 2, 1) := by decide +kernel
theorem dX2_coolOne_17 : decode mX2_coolOne.2.1 17 = .ok (.iaload, 1) := by decide +kernel
theorem dX2_coolOne_18 : decode mX2_coolOne.2.1 18 = .ok (.isub, 1) := by decide +kernel
theorem dX2_coolOne_19 : decode mX2_coolOne.2.1 19 = .ok (.invokestatic 86, 3) := by decide +kernel
theorem dX2_coolOne_22 : decode mX2_coolOne.2.1 22 = .ok (.iastore, 1) := by decide +kernel
theorem dX2_coolOne_23 : decode mX2_coolOne.2.1 23 = .ok (.return_, 1) := by decide +kernel
theorem bX2_coolOne_0 {E : px_E} {d : Nat} {w : pw_W} {Q : Option Value → pw_W → Prop} {t : ct_T} (hw : w.1 = cs t) {x2 x3 : Int32} {r0 : Nat} (hr0 : is_Hamlet r0) {r1 : Nat} (hr1 : is_State r1) (j1 : Nat) (hj1 : x3 = nI j1) (hl1 : j1 < 6) (j2 : Nat) (hj2 : x2 = nI j2) (hl2 : j2 < 2)
    (k1 : Q none (pw_sI w (r1 + 1) j1 (js_max 0 ((pw_I w (r1 + 1) j1) - (pw_I w (r0 + 7) j2))))) :
    px_W E mX2_coolOne (d + 1) 0 0 0 [.ref r0, .ref r1, .int x2, .int x3] [] w Q := by
  refine px_aload_n dX2_coolOne_0 rfl rfl ?_
  refine px_getR (v := (r1 + 1)) dX2_coolOne_1 fr_2_71 rfl (px_sh1 hw hr1.sh) (px_rf hw hr1.rf0) (Nat.succ_ne_zero _) ?_
  refine px_iload_n dX2_coolOne_4 rfl rfl ?_
  refine px_iconst dX2_coolOne_5 ic_0 ?_
  refine px_aload_n dX2_coolOne_6 rfl rfl ?_
  refine px_getR (v := (r1 + 1)) dX2_coolOne_7 fr_2_71 rfl (px_sh1 hw hr1.sh) (px_rf hw hr1.rf0) (Nat.succ_ne_zero _) ?_
  refine px_iload_n dX2_coolOne_10 rfl rfl ?_
  refine px_iald dX2_coolOne_11 (px_sh2 hw hr1.sh1) (by decide) j1 hj1 hl1 ?_
  refine px_aload_n dX2_coolOne_12 rfl rfl ?_
  refine px_getR (v := (r0 + 7)) dX2_coolOne_13 fr_2_30 rfl (px_sh1 hw hr0.sh) (px_rf hw hr0.rf9) (Nat.succ_ne_zero _) ?_
  refine px_iload_n dX2_coolOne_16 rfl rfl ?_
  refine px_iald dX2_coolOne_17 (px_sh2 hw hr0.sh7) (by decide) j2 hj2 hl2 ?_
  refine px_isub dX2_coolOne_18 ?_
  refine px_mmax dX2_coolOne_19 (px_in4 60 rfl rfl) (Nat.le_of_ble_eq_true rfl) (by omega) ?_
  refine px_iast dX2_coolOne_22 (px_sh2 hw hr1.sh1) (by decide) j1 hj1 hl1 (by omega) ?_
  exact px_return dX2_coolOne_23 rfl k1
theorem eX2_coolOne {E : px_E} {d : Nat} {w : pw_W} {Q : Option Value → pw_W → Prop} {t : ct_T} (hw : w.1 = cs t) {x2 x3 : Int32} {r0 : Nat} (hr0 : is_Hamlet r0) {r1 : Nat} (hr1 : is_State r1) (j1 : Nat) (hj1 : x3 = nI j1) (hl1 : j1 < 6) (j2 : Nat) (hj2 : x2 = nI j2) (hl2 : j2 < 2)
    (k1 : Q none (pw_sI w (r1 + 1) j1 (js_max 0 ((pw_I w (r1 + 1) j1) - (pw_I w (r0 + 7) j2))))) :
    px_Call E (d + 1) 0 0 mX2_coolOne [.ref r0, .ref r1, .int x2, .int x3] w Q :=
  px_enter (k := 0) (by decide) (Nat.le_of_ble_eq_true rfl) rfl (px_forget (bX2_coolOne_0 hw hr0 hr1 j1 hj1 hl1 j2 hj2 hl2 k1) ⟨Or.inr rfl, Or.inr rfl, Or.inr rfl, Or.inr rfl, trivial⟩)
theorem dX2_passDay_0 : decode mX2_passDay.2.1 0 = .ok (.iconst 0, 1) := by decide +kernel
theorem dX2_passDay_1 : decode mX2_passDay.2.1 1 = .ok (.istore 4, 2) := by decide +kernel
theorem dX2_passDay_3 : decode mX2_passDay.2.1 3 = .ok (.iconst 0, 1) := by decide +kernel
theorem dX2_passDay_4 : decode mX2_passDay.2.1 4 = .ok (.istore 5, 2) := by decide +kernel
theorem dX2_passDay_6 : decode mX2_passDay.2.1 6 = .ok (.iload 5, 2) := by decide +kernel
theorem dX2_passDay_8 : decode mX2_passDay.2.1 8 = .ok (.aload_n 0, 1) := by decide +kernel
theorem dX2_passDay_9 : decode mX2_passDay.2.1 9 = .ok (.getfield 53, 3) := by decide +kernel
theorem dX2_passDay_12 : decode mX2_passDay.2.1 12 = .ok (.if_icmp .ge 47, 3) := by decide +kernel
theorem dX2_passDay_15 : decode mX2_passDay.2.1 15 = .ok (.aload_n 0, 1) := by decide +kernel
theorem dX2_passDay_16 : decode mX2_passDay.2.1 16 = .ok (.aload_n 1, 1) := by decide +kernel
theorem dX2_passDay_17 : decode mX2_passDay.2.1 17 = .ok (.iload 5, 2) := by decide +kernel
theorem dX2_passDay_19 : decode mX2_passDay.2.1 19 = .ok (.invokevirtual 92, 3) := by decide +kernel
theorem dX2_passDay_22 : decode mX2_passDay.2.1 22 = .ok (.ifCond .eq 31, 3) := by decide +kernel
theorem dX2_passDay_25 : decode mX2_passDay.2.1 25 = .ok (.aload_n 0, 1) := by decide +kernel
theorem dX2_passDay_26 : decode mX2_passDay.2.1 26 = .ok (.aload_n 1, 1) := by decide +kernel
theorem dX2_passDay_27 : decode mX2_passDay.2.1 27 = .ok (.aload_n 0, 1) := by decide +kernel
theorem dX2_passDay_28 : decode mX2_passDay.2.1 28 = .ok (.getfield 21, 3) := by decide +kernel
theorem dX2_passDay_31 : decode mX2_passDay.2.1 31 = .ok (.iload 5, 2) := by decide +kernel
theorem dX2_passDay_33 : decode mX2_passDay.2.1 33 = .ok (.iaload, 1) := by decide +kernel
theorem dX2_passDay_34 : decode mX2_passDay.2.1 34 = .ok (.aload_n 0, 1) := by decide +kernel
theorem dX2_passDay_35 : decode mX2_passDay.2.1 35 = .ok (.getfield 24, 3) := by decide +kernel
theorem dX2_passDay_38 : decode mX2_passDay.2.1 38 = .ok (.iload 5, 2) := by decide +kernel
theorem dX2_passDay_40 : decode mX2_passDay.2.1 40 = .ok (.iaload, 1) := by decide +kernel
theorem dX2_passDay_41 : decode mX2_passDay.2.1 41 = .ok (.invokevirtual 95, 3) := by decide +kernel
theorem dX2_passDay_44 : decode mX2_passDay.2.1 44 = .ok (.iload 4, 2) := by decide +kernel
theorem dX2_passDay_46 : decode mX2_passDay.2.1 46 = .ok (.iconst 1, 1) := by decide +kernel
theorem dX2_passDay_47 : decode mX2_passDay.2.1 47 = .ok (.iload 5, 2) := by decide +kernel
theorem dX2_passDay_49 : decode mX2_passDay.2.1 49 = .ok (.ishl, 1) := by decide +kernel
theorem dX2_passDay_50 : decode mX2_passDay.2.1 50 = .ok (.ior, 1) := by decide +kernel
theorem dX2_passDay_51 : decode mX2_passDay.2.1 51 = .ok (.istore 4, 2) := by decide +kernel
theorem dX2_passDay_53 : decode mX2_passDay.2.1 53 = .ok (.iinc 5 1, 3) := by decide +kernel
theorem dX2_passDay_56 : decode mX2_passDay.2.1 56 = .ok (.goto (-50), 3) := by decide +kernel
theorem dX2_passDay_59 : decode mX2_passDay.2.1 59 = .ok (.iconst 0, 1) := by decide +kernel
theorem dX2_passDay_60 : decode mX2_passDay.2.1 60 = .ok (.istore 5, 2) := by decide +kernel
theorem dX2_passDay_62 : decode mX2_passDay.2.1 62 = .ok (.iload 5, 2) := by decide +kernel
theorem dX2_passDay_64 : decode mX2_passDay.2.1 64 = .ok (.aload_n 0, 1) := by decide +kernel
theorem dX2_passDay_65 : decode mX2_passDay.2.1 65 = .ok (.getfield 56, 3) := by decide +kernel
theorem dX2_passDay_68 : decode mX2_passDay.2.1 68 = .ok (.if_icmp .ge 50, 3) := by decide +kernel
theorem dX2_passDay_71 : decode mX2_passDay.2.1 71 = .ok (.aload_n 0, 1) := by decide +kernel
theorem dX2_passDay_72 : decode mX2_passDay.2.1 72 = .ok (.getfield 33, 3) := by decide +kernel
theorem dX2_passDay_75 : decode mX2_passDay.2.1 75 = .ok (.iload 5, 2) := by decide +kernel
theorem dX2_passDay_77 : decode mX2_passDay.2.1 77 = .ok (.iaload, 1) := by decide +kernel
theorem dX2_passDay_78 : decode mX2_passDay.2.1 78 = .ok (.ifCond .le 34, 3) := by decide +kernel
theorem dX2_passDay_81 : decode mX2_passDay.2.1 81 = .ok (.aload_n 1, 1) := by decide +kernel
theorem dX2_passDay_82 : decode mX2_passDay.2.1 82 = .ok (.getfield 79, 3) := by decide +kernel
theorem dX2_passDay_85 : decode mX2_passDay.2.1 85 = .ok (.aload_n 0, 1) := by decide +kernel
theorem dX2_passDay_86 : decode mX2_passDay.2.1 86 = .ok (.getfield 33, 3) := by decide +kernel
theorem dX2_passDay_89 : decode mX2_passDay.2.1 89 = .ok (.iload 5, 2) := by decide +kernel
theorem dX2_passDay_91 : decode mX2_passDay.2.1 91 = .ok (.iaload, 1) := by decide +kernel
theorem dX2_passDay_92 : decode mX2_passDay.2.1 92 = .ok (.irem, 1) := by decide +kernel
theorem dX2_passDay_93 : decode mX2_passDay.2.1 93 = .ok (.istore 6, 2) := by decide +kernel
theorem dX2_passDay_95 : decode mX2_passDay.2.1 95 = .ok (.aload_n 0, 1) := by decide +kernel
theorem dX2_passDay_96 : decode mX2_passDay.2.1 96 = .ok (.aload_n 1, 1) := by decide +kernel
theorem dX2_passDay_97 : decode mX2_passDay.2.1 97 = .ok (.iload 5, 2) := by decide +kernel
theorem dX2_passDay_99 : decode mX2_passDay.2.1 99 = .ok (.aload_n 2, 1) := by decide +kernel
theorem dX2_passDay_100 : decode mX2_passDay.2.1 100 = .ok (.iload 5, 2) := by decide +kernel
theorem dX2_passDay_102 : decode mX2_passDay.2.1 102 = .ok (.bipush 6, 2) := by decide +kernel
theorem dX2_passDay_104 : decode mX2_passDay.2.1 104 = .ok (.imul, 1) := by decide +kernel
theorem dX2_passDay_105 : decode mX2_passDay.2.1 105 = .ok (.iload 6, 2) := by decide +kernel
theorem dX2_passDay_107 : decode mX2_passDay.2.1 107 = .ok (.iadd, 1) := by decide +kernel
theorem dX2_passDay_108 : decode mX2_passDay.2.1 108 = .ok (.iaload, 1) := by decide +kernel
theorem dX2_passDay_109 : decode mX2_passDay.2.1 109 = .ok (.invokevirtual 99, 3) := by decide +kernel
theorem dX2_passDay_112 : decode mX2_passDay.2.1 112 = .ok (.iinc 5 1, 3) := by decide +kernel
theorem dX2_passDay_115 : decode mX2_passDay.2.1 115 = .ok (.goto (-53), 3) := by decide +kernel
theorem dX2_passDay_118 : decode mX2_passDay.2.1 118 = .ok (.iload_n 3, 1) := by decide +kernel
theorem dX2_passDay_119 : decode mX2_passDay.2.1 119 = .ok (.ifCond .eq 8, 3) := by decide +kernel
theorem dX2_passDay_122 : decode mX2_passDay.2.1 122 = .ok (.aload_n 0, 1) := by decide +kernel
theorem dX2_passDay_123 : decode mX2_passDay.2.1 123 = .ok (.aload_n 1, 1) := by decide +kernel
theorem dX2_passDay_124 : decode mX2_passDay.2.1 124 = .ok (.invokevirtual 102, 3) := by decide +kernel
theorem dX2_passDay_127 : decode mX2_passDay.2.1 127 = .ok (.aload_n 1, 1) := by decide +kernel
theorem dX2_passDay_128 : decode mX2_passDay.2.1 128 = .ok (.dup, 1) := by decide +kernel
theorem dX2_passDay_129 : decode mX2_passDay.2.1 129 = .ok (.getfield 79, 3) := by decide +kernel
theorem dX2_passDay_132 : decode mX2_passDay.2.1 132 = .ok (.iconst 1, 1) := by decide +kernel
theorem dX2_passDay_133 : decode mX2_passDay.2.1 133 = .ok (.iadd, 1) := by decide +kernel
theorem dX2_passDay_134 : decode mX2_passDay.2.1 134 = .ok (.putfield 79, 3) := by decide +kernel
theorem dX2_passDay_137 : decode mX2_passDay.2.1 137 = .ok (.iload 4, 2) := by decide +kernel
theorem dX2_passDay_139 : decode mX2_passDay.2.1 139 = .ok (.ireturn, 1) := by decide +kernel
theorem bX2_passDay_0 {E : px_E} {d : Nat} {w : pw_W} {Q : Option Value → pw_W → Prop} {t : ct_T} (hw : w.1 = cs t) {x3 : Int32} {r0 : Nat} (hr0 : is_Hamlet r0) {r1 : Nat} (hr1 : is_State r1) {r2 n2 : Nat} (hs2 : (cs t).2.1 r2 = (100, n2)) (hn2 : n2 < 2 ^ 31) 
    (k1 : px_W E mX2_passDay (d + 1) 0 0 6 [.ref r0, .ref r1, .ref r2, .int x3, .int 0, .int 0, .null] [] w Q) :
    px_W E mX2_passDay (d + 1) 0 0 0 [.ref r0, .ref r1, .ref r2, .int x3, .null, .null, .null] [] w Q := by
  refine px_iconst dX2_passDay_0 ic_0 ?_
  refine px_istore (ls' := [.ref r0, .ref r1, .ref r2, .int x3, .int 0, .null, .null]) dX2_passDay_1 ⟨by decide, rfl⟩ rfl ?_
  refine px_iconst dX2_passDay_3 ic_0 ?_
  refine px_istore (ls' := [.ref r0, .ref r1, .ref r2, .int x3, .int 0, .int 0, .null]) dX2_passDay_4 ⟨by decide, rfl⟩ rfl ?_
  exact k1
theorem eX2_passDay {E : px_E} {d : Nat} {w : pw_W} {Q : Option Value → pw_W → Prop} {t : ct_T} (hw : w.1 = cs t) {x3 : Int32} {r0 : Nat} (hr0 : is_Hamlet r0) {r1 : Nat} (hr1 : is_State r1) {r2 n2 : Nat} (hs2 : (cs t).2.1 r2 = (100, n2)) (hn2 : n2 < 2 ^ 31) 
    (k1 : px_W E mX2_passDay (d + 1) 0 0 6 [.ref r0, .ref r1, .ref r2, .int x3, .int 0, .int 0, .null] [] w Q) :
    px_Call E (d + 1) 0 0 mX2_passDay [.ref r0, .ref r1, .ref r2, .int x3] w Q :=
  px_enter (k := 3) (by decide) (Nat.le_of_ble_eq_true rfl) rfl (px_forget (bX2_passDay_0 hw hr0 hr1 hs2 hn2 k1) ⟨Or.inr rfl, Or.inr rfl, Or.inr rfl, Or.inr rfl, Or.inl rfl, Or.inl rfl, Or.inl rfl, trivial⟩)
theorem bX2_passDay_6 {E : px_E} {d : Nat} {w : pw_W} {Q : Option Value → pw_W → Prop} {t : ct_T} (hw : w.1 = cs t) {x3 x4 x5 : Int32} {r0 : Nat} (hr0 : is_Hamlet r0) {r1 : Nat} (hr1 : is_State r1) {r2 n2 : Nat} (hs2 : (cs t).2.1 r2 = (100, n2)) (hn2 : n2 < 2 ^ 31) 
    (k1 : (pw_I w r0 4) ≤ x5 → px_W E mX2_passDay (d + 1) 0 0 62 [.ref r0, .ref r1, .ref r2, .int x3, .int x4, .int 0, .null] [] w Q)
    (k2 : ¬ (pw_I w r0 4) ≤ x5 → px_Call E d 0 0 mX2_takesPlace [.ref r0, .ref r1, .int x5] w (fun v w' => px_W E mX2_passDay (d + 1) 0 0 22 [.ref r0, .ref r1, .ref r2, .int x3, .int x4, .int x5, .null] (v.toList ++ []) w' Q)) :
    px_W E mX2_passDay (d + 1) 0 0 6 [.ref r0, .ref r1, .ref r2, .int x3, .int x4, .int x5, .null] [] w Q := by
  refine px_iload dX2_passDay_6 rfl ?_
  refine px_aload_n dX2_passDay_8 rfl rfl ?_
  refine px_getI dX2_passDay_9 fr_2_53 rfl (px_sh1 hw hr0.sh) ?_
  refine px_icmp_ge (tgt := 59) dX2_passDay_12 (by decide) (fun h1 => ?_) (fun h1 => ?_)
  ·
    refine px_iconst dX2_passDay_59 ic_0 ?_
    refine px_istore (ls' := [.ref r0, .ref r1, .ref r2, .int x3, .int x4, .int 0, .null]) dX2_passDay_60 ⟨by decide, rfl⟩ rfl ?_
    exact (k1 h1)
  ·
    refine px_aload_n dX2_passDay_15 rfl rfl ?_
    refine px_aload_n dX2_passDay_16 rfl rfl ?_
    refine px_iload dX2_passDay_17 rfl ?_
    exact px_callV (As := [.ref r1, .int x5]) (st := []) (rc := 0) (rs := 0) (mc := 0) (ms := 0) dX2_passDay_19 lk_2_92 (px_sh1 hw hr0.sh) rfl rfl (Nat.le_of_ble_eq_true rfl) (k2 h1)
theorem bX2_passDay_22 {E : px_E} {d : Nat} {w : pw_W} {Q : Option Value → pw_W → Prop} {t : ct_T} (hw : w.1 = cs t) {x3 x4 x5 y0 : Int32} {r0 : Nat} (hr0 : is_Hamlet r0) {r1 : Nat} (hr1 : is_State r1) {r2 n2 : Nat} (hs2 : (cs t).2.1 r2 = (100, n2)) (hn2 : n2 < 2 ^ 31) 
    (k1 : y0 = 0 → px_W E mX2_passDay (d + 1) 0 0 53 [.ref r0, .ref r1, .ref r2, .int x3, .int x4, .int x5, .null] [] w Q)
    (k2 : ¬ y0 = 0 → px_W E mX2_passDay (d + 1) 0 0 25 [.ref r0, .ref r1, .ref r2, .int x3, .int x4, .int x5, .null] [] w Q) :
    px_W E mX2_passDay (d + 1) 0 0 22 [.ref r0, .ref r1, .ref r2, .int x3, .int x4, .int x5, .null] [.int y0] w Q := by
  refine px_if_eq (tgt := 53) dX2_passDay_22 (by decide) (fun h1 => ?_) (fun h1 => ?_)
  ·
    exact (k1 h1)
  ·
    exact (k2 h1)
theorem bX2_passDay_25 {E : px_E} {d : Nat} {w : pw_W} {Q : Option Value → pw_W → Prop} {t : ct_T} (hw : w.1 = cs t) {x3 x4 x5 : Int32} {r0 : Nat} (hr0 : is_Hamlet r0) {r1 : Nat} (hr1 : is_State r1) {r2 n2 : Nat} (hs2 : (cs t).2.1 r2 = (100, n2)) (hn2 : n2 < 2 ^ 31) (j1 : Nat) (hj1 : x5 = nI j1) (hl1 : j1 < 9)
    (k1 : px_Call E d 0 0 mX2_meet [.ref r0, .ref r1, .int (pw_I w (r0 + 4) j1), .int (pw_I w (r0 + 5) j1)] w (fun v w' => px_W E mX2_passDay (d + 1) 0 0 44 [.ref r0, .ref r1, .ref r2, .int x3, .int x4, .int x5, .null] (v.toList ++ []) w' Q)) :
    px_W E mX2_passDay (d + 1) 0 0 25 [.ref r0, .ref r1, .ref r2, .int x3, .int x4, .int x5, .null] [] w Q := by
  refine px_aload_n dX2_passDay_25 rfl rfl ?_
  refine px_aload_n dX2_passDay_26 rfl rfl ?_
  refine px_aload_n dX2_passDay_27 rfl rfl ?_
  refine px_getR (v := (r0 + 4)) dX2_passDay_28 fr_2_21 rfl (px_sh1 hw hr0.sh) (px_rf hw hr0.rf5) (Nat.succ_ne_zero _) ?_
  refine px_iload dX2_passDay_31 rfl ?_
  refine px_iald dX2_passDay_33 (px_sh2 hw hr0.sh4) (by decide) j1 hj1 hl1 ?_
  refine px_aload_n dX2_passDay_34 rfl rfl ?_
  refine px_getR (v := (r0 + 5)) dX2_passDay_35 fr_2_24 rfl (px_sh1 hw hr0.sh) (px_rf hw hr0.rf6) (Nat.succ_ne_zero _) ?_
  refine px_iload dX2_passDay_38 rfl ?_
  refine px_iald dX2_passDay_40 (px_sh2 hw hr0.sh5) (by decide) j1 hj1 hl1 ?_
  exact px_callV (As := [.ref r1, .int (pw_I w (r0 + 4) j1), .int (pw_I w (r0 + 5) j1)]) (st := []) (rc := 0) (rs := 0) (mc := 0) (ms := 0) dX2_passDay_41 lk_2_95 (px_sh1 hw hr0.sh) rfl rfl (Nat.le_of_ble_eq_true rfl) k1
theorem bX2_passDay_44 {E : px_E} {d : Nat} {w : pw_W} {Q : Option Value → pw_W → Prop} {t : ct_T} (hw : w.1 = cs t) {x3 x4 x5 : Int32} {r0 : Nat} (hr0 : is_Hamlet r0) {r1 : Nat} (hr1 : is_State r1) {r2 n2 : Nat} (hs2 : (cs t).2.1 r2 = (100, n2)) (hn2 : n2 < 2 ^ 31) 
    (k1 : px_W E mX2_passDay (d + 1) 0 0 53 [.ref r0, .ref r1, .ref r2, .int x3, .int (x4 ||| (js_shl 1 x5)), .int x5, .null] [] w Q) :
    px_W E mX2_passDay (d + 1) 0 0 44 [.ref r0, .ref r1, .ref r2, .int x3, .int x4, .int x5, .null] [] w Q := by
  refine px_iload dX2_passDay_44 rfl ?_
  refine px_iconst dX2_passDay_46 ic_1 ?_
  refine px_iload dX2_passDay_47 rfl ?_
  refine px_ishl dX2_passDay_49 ?_
  refine px_ior dX2_passDay_50 ?_
  refine px_istore (ls' := [.ref r0, .ref r1, .ref r2, .int x3, .int (x4 ||| (js_shl 1 x5)), .int x5, .null]) dX2_passDay_51 ⟨by decide, rfl⟩ rfl ?_
  exact k1
theorem bX2_passDay_53 {E : px_E} {d : Nat} {w : pw_W} {Q : Option Value → pw_W → Prop} {t : ct_T} (hw : w.1 = cs t) {x3 x4 x5 : Int32} {r0 : Nat} (hr0 : is_Hamlet r0) {r1 : Nat} (hr1 : is_State r1) {r2 n2 : Nat} (hs2 : (cs t).2.1 r2 = (100, n2)) (hn2 : n2 < 2 ^ 31) 
    (k1 : px_W E mX2_passDay (d + 1) 0 0 6 [.ref r0, .ref r1, .ref r2, .int x3, .int x4, .int (x5 + 1), .null] [] w Q) :
    px_W E mX2_passDay (d + 1) 0 0 53 [.ref r0, .ref r1, .ref r2, .int x3, .int x4, .int x5, .null] [] w Q := by
  refine px_iinc (ls' := [.ref r0, .ref r1, .ref r2, .int x3, .int x4, .int (x5 + 1), .null]) dX2_passDay_53 ⟨by decide, rfl⟩ rfl rfl rfl ?_
  refine px_goto (tgt := 6) dX2_passDay_56 (by decide) ?_
  exact k1
theorem bX2_passDay_62 {E : px_E} {d : Nat} {w : pw_W} {Q : Option Value → pw_W → Prop} {t : ct_T} (hw : w.1 = cs t) {x3 x4 x5 : Int32} {r0 : Nat} (hr0 : is_Hamlet r0) {r1 : Nat} (hr1 : is_State r1) {r2 n2 : Nat} (hs2 : (cs t).2.1 r2 = (100, n2)) (hn2 : n2 < 2 ^ 31) 
    (k1 : (pw_I w r0 8) ≤ x5 → x3 = 0 → px_W E mX2_passDay (d + 1) 0 0 127 [.null, .ref r1, .null, .null, .int x4, .null, .null] [] w Q)
    (k2 : (pw_I w r0 8) ≤ x5 → ¬ x3 = 0 → px_Call E d 0 0 mX2_flare [.ref r0, .ref r1] w (fun v w' => px_W E mX2_passDay (d + 1) 0 0 127 [.null, .ref r1, .null, .null, .int x4, .null, .null] (v.toList ++ []) w' Q))
    (k3 : ¬ (pw_I w r0 8) ≤ x5 → px_W E mX2_passDay (d + 1) 0 0 71 [.ref r0, .ref r1, .ref r2, .int x3, .int x4, .int x5, .null] [] w Q) :
    px_W E mX2_passDay (d + 1) 0 0 62 [.ref r0, .ref r1, .ref r2, .int x3, .int x4, .int x5, .null] [] w Q := by
  refine px_iload dX2_passDay_62 rfl ?_
  refine px_aload_n dX2_passDay_64 rfl rfl ?_
  refine px_getI dX2_passDay_65 fr_2_56 rfl (px_sh1 hw hr0.sh) ?_
  refine px_icmp_ge (tgt := 118) dX2_passDay_68 (by decide) (fun h1 => ?_) (fun h1 => ?_)
  ·
    refine px_iload_n dX2_passDay_118 rfl rfl ?_
    refine px_if_eq (tgt := 127) dX2_passDay_119 (by decide) (fun h2 => ?_) (fun h2 => ?_)
    ·
      exact px_forget (k1 h1 h2) ⟨Or.inl rfl, Or.inr rfl, Or.inl rfl, Or.inl rfl, Or.inr rfl, Or.inl rfl, Or.inl rfl, trivial⟩
    ·
      refine px_aload_n dX2_passDay_122 rfl rfl ?_
      refine px_aload_n dX2_passDay_123 rfl rfl ?_
      refine px_forget (ls' := [.null, .ref r1, .null, .null, .int x4, .null, .null]) ?_ ⟨Or.inl rfl, Or.inr rfl, Or.inl rfl, Or.inl rfl, Or.inr rfl, Or.inl rfl, Or.inl rfl, trivial⟩
      exact px_callV (As := [.ref r1]) (st := []) (rc := 0) (rs := 0) (mc := 0) (ms := 0) dX2_passDay_124 lk_2_102 (px_sh1 hw hr0.sh) rfl rfl (Nat.le_of_ble_eq_true rfl) (k2 h1 h2)
  ·
    exact (k3 h1)
theorem bX2_passDay_71 {E : px_E} {d : Nat} {w : pw_W} {Q : Option Value → pw_W → Prop} {t : ct_T} (hw : w.1 = cs t) {x3 x4 x5 : Int32} {r0 : Nat} (hr0 : is_Hamlet r0) {r1 : Nat} (hr1 : is_State r1) {r2 n2 : Nat} (hs2 : (cs t).2.1 r2 = (100, n2)) (hn2 : n2 < 2 ^ 31) (j1 : Nat) (hj1 : x5 = nI j1) (hl1 : j1 < 2)
    (k1 : (pw_I w (r0 + 8) j1) ≤ 0 → px_W E mX2_passDay (d + 1) 0 0 112 [.ref r0, .ref r1, .ref r2, .int x3, .int x4, .int x5, .null] [] w Q)
    (k2 : ¬ (pw_I w (r0 + 8) j1) ≤ 0 → px_W E mX2_passDay (d + 1) 0 0 81 [.ref r0, .ref r1, .ref r2, .int x3, .int x4, .int x5, .null] [] w Q) :
    px_W E mX2_passDay (d + 1) 0 0 71 [.ref r0, .ref r1, .ref r2, .int x3, .int x4, .int x5, .null] [] w Q := by
  refine px_aload_n dX2_passDay_71 rfl rfl ?_
  refine px_getR (v := (r0 + 8)) dX2_passDay_72 fr_2_33 rfl (px_sh1 hw hr0.sh) (px_rf hw hr0.rf10) (Nat.succ_ne_zero _) ?_
  refine px_iload dX2_passDay_75 rfl ?_
  refine px_iald dX2_passDay_77 (px_sh2 hw hr0.sh8) (by decide) j1 hj1 hl1 ?_
  refine px_if_le (tgt := 112) dX2_passDay_78 (by decide) (fun h1 => ?_) (fun h1 => ?_)
  ·
    exact (k1 h1)
  ·
    exact (k2 h1)
theorem bX2_passDay_81 {E : px_E} {d : Nat} {w : pw_W} {Q : Option Value → pw_W → Prop} {t : ct_T} (hw : w.1 = cs t) {x3 x4 x5 : Int32} {r0 : Nat} (hr0 : is_Hamlet r0) {r1 : Nat} (hr1 : is_State r1) {r2 n2 : Nat} (hs2 : (cs t).2.1 r2 = (100, n2)) (hn2 : n2 < 2 ^ 31) (j1 : Nat) (hj1 : x5 = nI j1) (hl1 : j1 < 2) (hz2 : ¬ (pw_I w (r0 + 8) j1) = 0) (j2 : Nat) (hj2 : ((x5 * 6) + (js_rem (pw_I w r1 3) (pw_I w (r0 + 8) j1))) = nI j2) (hl2 : j2 < n2)
    (k1 : px_Call E d 0 0 mX2_coolOne [.ref r0, .ref r1, .int x5, .int (pw_I w r2 j2)] w (fun v w' => px_W E mX2_passDay (d + 1) 0 0 112 [.ref r0, .ref r1, .ref r2, .int x3, .int x4, .int x5, .null] (v.toList ++ []) w' Q)) :
    px_W E mX2_passDay (d + 1) 0 0 81 [.ref r0, .ref r1, .ref r2, .int x3, .int x4, .int x5, .null] [] w Q := by
  refine px_aload_n dX2_passDay_81 rfl rfl ?_
  refine px_getI dX2_passDay_82 fr_2_79 rfl (px_sh1 hw hr1.sh) ?_
  refine px_aload_n dX2_passDay_85 rfl rfl ?_
  refine px_getR (v := (r0 + 8)) dX2_passDay_86 fr_2_33 rfl (px_sh1 hw hr0.sh) (px_rf hw hr0.rf10) (Nat.succ_ne_zero _) ?_
  refine px_iload dX2_passDay_89 rfl ?_
  refine px_iald dX2_passDay_91 (px_sh2 hw hr0.sh8) (by decide) j1 hj1 hl1 ?_
  refine px_irem dX2_passDay_92 hz2 ?_
  refine px_istore (ls' := [.ref r0, .ref r1, .ref r2, .int x3, .int x4, .int x5, .int (js_rem (pw_I w r1 3) (pw_I w (r0 + 8) j1))]) dX2_passDay_93 ⟨by decide, rfl⟩ rfl ?_
  refine px_aload_n dX2_passDay_95 rfl rfl ?_
  refine px_aload_n dX2_passDay_96 rfl rfl ?_
  refine px_iload dX2_passDay_97 rfl ?_
  refine px_aload_n dX2_passDay_99 rfl rfl ?_
  refine px_iload dX2_passDay_100 rfl ?_
  refine px_bipush dX2_passDay_102 bp_6 ?_
  refine px_imul dX2_passDay_104 ?_
  refine px_iload dX2_passDay_105 rfl ?_
  refine px_iadd dX2_passDay_107 ?_
  refine px_iald dX2_passDay_108 (px_sh2 hw hs2) hn2 j2 hj2 hl2 ?_
  refine px_forget (ls' := [.ref r0, .ref r1, .ref r2, .int x3, .int x4, .int x5, .null]) ?_ ⟨Or.inr rfl, Or.inr rfl, Or.inr rfl, Or.inr rfl, Or.inr rfl, Or.inr rfl, Or.inl rfl, trivial⟩
  exact px_callV (As := [.ref r1, .int x5, .int (pw_I w r2 j2)]) (st := []) (rc := 0) (rs := 0) (mc := 0) (ms := 0) dX2_passDay_109 lk_2_99 (px_sh1 hw hr0.sh) rfl rfl (Nat.le_of_ble_eq_true rfl) k1
theorem bX2_passDay_112 {E : px_E} {d : Nat} {w : pw_W} {Q : Option Value → pw_W → Prop} {t : ct_T} (hw : w.1 = cs t) {x3 x4 x5 : Int32} {r0 : Nat} (hr0 : is_Hamlet r0) {r1 : Nat} (hr1 : is_State r1) {r2 n2 : Nat} (hs2 : (cs t).2.1 r2 = (100, n2)) (hn2 : n2 < 2 ^ 31) 
    (k1 : px_W E mX2_passDay (d + 1) 0 0 62 [.ref r0, .ref r1, .ref r2, .int x3, .int x4, .int (x5 + 1), .null] [] w Q) :
    px_W E mX2_passDay (d + 1) 0 0 112 [.ref r0, .ref r1, .ref r2, .int x3, .int x4, .int x5, .null] [] w Q := by
  refine px_iinc (ls' := [.ref r0, .ref r1, .ref r2, .int x3, .int x4, .int (x5 + 1), .null]) dX2_passDay_112 ⟨by decide, rfl⟩ rfl rfl rfl ?_
  refine px_goto (tgt := 62) dX2_passDay_115 (by decide) ?_
  exact k1
theorem bX2_passDay_127 {E : px_E} {d : Nat} {w : pw_W} {Q : Option Value → pw_W → Prop} {t : ct_T} (hw : w.1 = cs t) {x4 : Int32} {r0 : Nat} (hr0 : is_Hamlet r0) {r1 : Nat} (hr1 : is_State r1) {r2 n2 : Nat} (hs2 : (cs t).2.1 r2 = (100, n2)) (hn2 : n2 < 2 ^ 31) 
    (k1 : Q (some (.int x4)) (pw_sI w r1 3 ((pw_I w r1 3) + 1))) :
    px_W E mX2_passDay (d + 1) 0 0 127 [.null, .ref r1, .null, .null, .int x4, .null, .null] [] w Q := by
  refine px_aload_n dX2_passDay_127 rfl rfl ?_
  refine px_dup dX2_passDay_128 rfl ?_
  refine px_getI dX2_passDay_129 fr_2_79 rfl (px_sh1 hw hr1.sh) ?_
  refine px_iconst dX2_passDay_132 ic_1 ?_
  refine px_iadd dX2_passDay_133 ?_
  refine px_putI dX2_passDay_134 fl_2_79 (Or.inl rfl) rfl (px_sh1 hw hr1.sh) rfl rfl (by omega) ?_
  refine px_iload dX2_passDay_137 rfl ?_
  exact px_ireturn dX2_passDay_139 rfl rfl k1
theorem dX2_meet_0 : decode mX2_meet.2.1 0 = .ok (.aload_n 1, 1) := by decide +kernel
theorem dX2_meet_1 : decode mX2_meet.2.1 1 = .ok (.getfield 78, 3) := by decide +kernel
theorem dX2_meet_4 : decode mX2_meet.2.1 4 = .ok (.iload_n 2, 1) := by decide +kernel
theorem dX2_meet_5 : decode mX2_meet.2.1 5 = .ok (.iaload, 1) := by decide +kernel
theorem dX2_meet_6 : decode mX2_meet.2.1 6 = .ok (.istore 4, 2) := by decide +kernel
theorem dX2_meet_8 : decode mX2_meet.2.1 8 = .ok (.aload_n 1, 1) := by decide +kernel
theorem dX2_meet_9 : decode mX2_meet.2.1 9 = .ok (.getfield 78, 3) := by decide +kernel
theorem dX2_meet_12 : decode mX2_meet.2.1 12 = .ok (.iload_n 3, 1) := by decide +kernel
theorem dX2_meet_13 : decode mX2_meet.2.1 13 = .ok (.iaload, 1) := by decide +kernel
theorem dX2_meet_14 : decode mX2_meet.2.1 14 = .ok (.istore 5, 2) := by decide +kernel
theorem dX2_meet_16 : decode mX2_meet.2.1 16 = .ok (.aload_n 0, 1) := by decide +kernel
theorem dX2_meet_17 : decode mX2_meet.2.1 17 = .ok (.getfield 42, 3) := by decide +kernel
theorem dX2_meet_20 : decode mX2_meet.2.1 20 = .ok (.iload 4, 2) := by decide +kernel
theorem dX2_meet_22 : decode mX2_meet.2.1 22 = .ok (.iload 5, 2) := by decide +kernel
theorem dX2_meet_24 : decode mX2_meet.2.1 24 = .ok (.aload_n 1, 1) := by decide +kernel
theorem dX2_meet_25 : decode mX2_meet.2.1 25 = .ok (.getfield 71, 3) := by decide +kernel
theorem dX2_meet_28 : decode mX2_meet.2.1 28 = .ok (.iload_n 2, 1) := by decide +kernel
theorem dX2_meet_29 : decode mX2_meet.2.1 29 = .ok (.iaload, 1) := by decide +kernel
theorem dX2_meet_30 : decode mX2_meet.2.1 30 = .ok (.aload_n 1, 1) := by decide +kernel
theorem dX2_meet_31 : decode mX2_meet.2.1 31 = .ok (.getfield 79, 3) := by decide +kernel
theorem dX2_meet_34 : decode mX2_meet.2.1 34 = .ok (.invokevirtual 106, 3) := by decide +kernel
theorem dX2_meet_37 : decode mX2_meet.2.1 37 = .ok (.istore 6, 2) := by decide +kernel
theorem dX2_meet_39 : decode mX2_meet.2.1 39 = .ok (.aload_n 0, 1) := by decide +kernel
theorem dX2_meet_40 : decode mX2_meet.2.1 40 = .ok (.getfield 42, 3) := by decide +kernel
theorem dX2_meet_43 : decode mX2_meet.2.1 43 = .ok (.iload 5, 2) := by decide +kernel
theorem dX2_meet_45 : decode mX2_meet.2.1 45 = .ok (.iload 4, 2) := by decide +kernel
theorem dX2_meet_47 : decode mX2_meet.2.1 47 = .ok (.aload_n 1, 1) := by decide +kernel
theorem dX2_meet_48 : decode mX2_meet.2.1 48 = .ok (.getfield 71, 3) := by decide +kernel
theorem dX2_meet_51 : decode mX2_meet.2.1 51 = .ok (.iload_n 3, 1) := by decide +kernel
theorem dX2_meet_52 : decode mX2_meet.2.1 52 = .ok (.iaload, 1) := by decide +kernel
theorem dX2_meet_53 : decode mX2_meet.2.1 53 = .ok (.aload_n 1, 1) := by decide +kernel
theorem dX2_meet_54 : decode mX2_meet.2.1 54 = .ok (.getfield 79, 3) := by decide +kernel
theorem dX2_meet_57 : decode mX2_meet.2.1 57 = .ok (.invokevirtual 106, 3) := by decide +kernel
theorem dX2_meet_60 : decode mX2_meet.2.1 60 = .ok (.istore 7, 2) := by decide +kernel
theorem dX2_meet_62 : decode mX2_meet.2.1 62 = .ok (.aload_n 1, 1) := by decide +kernel
theorem dX2_meet_63 : decode mX2_meet.2.1 63 = .ok (.getfield 71, 3) := by decide +kernel
theorem dX2_meet_66 : decode mX2_meet.2.1 66 = .ok (.iload_n 2, 1) := by decide +kernel
theorem dX2_meet_67 : decode mX2_meet.2.1 67 = .ok (.bipush 99, 2) := by decide +kernel
theorem dX2_meet_69 : decode mX2_meet.2.1 69 = .ok (.aload_n 1, 1) := by decide +kernel
theorem dX2_meet_70 : decode mX2_meet.2.1 70 = .ok (.getfield 71, 3) := by decide +kernel
theorem dX2_meet_73 : decode mX2_meet.2.1 73 = .ok (.iload_n 2, 1) := by decide +kernel
theorem dX2_meet_74 : decode mX2_meet.2.1 74 = .ok (.iaload, 1) := by decide +kernel
theorem dX2_meet_75 : decode mX2_meet.2.1 75 = .ok (.iload 6, 2) := by decide +kernel
theorem dX2_meet_77 : decode mX2_meet.2.1 77 = .ok (.iadd, 1) := by decide +kernel
theorem dX2_meet_78 : decode mX2_meet.2.1 78 = .ok (.invokestatic 110, 3) := by decide +kernel
theorem dX2_meet_81 : decode mX2_meet.2.1 81 = .ok (.iastore, 1) := by decide +kernel
theorem dX2_meet_82 : decode mX2_meet.2.1 82 = .ok (.aload_n 1, 1) := by decide +kernel
theorem dX2_meet_83 : decode mX2_meet.2.1 83 = .ok (.getfield 71, 3) := by decide +kernel
theorem dX2_meet_86 : decode mX2_meet.2.1 86 = .ok (.iload_n 3, 1) := by decide +kernel
theorem dX2_meet_87 : decode mX2_meet.2.1 87 = .ok (.bipush 99, 2) := by decide +kernel
theorem dX2_meet_89 : decode mX2_meet.2.1 89 = .ok (.aload_n 1, 1) := by decide +kernel
theorem dX2_meet_90 : decode mX2_meet.2.1 90 = .ok (.getfield 71, 3) := by decide +kernel
theorem dX2_meet_93 : decode mX2_meet.2.1 93 = .ok (.iload_n 3, 1) := by decide +kernel
theorem dX2_meet_94 : decode mX2_meet.2.1 94 = .ok (.iaload, 1) := by decide +kernel
theorem dX2_meet_95 : decode mX2_meet.2.1 95 = .ok (.iload 7, 2) := by decide +kernel
theorem dX2_meet_97 : decode mX2_meet.2.1 97 = .ok (.iadd, 1) := by decide +kernel
theorem dX2_meet_98 : decode mX2_meet.2.1 98 = .ok (.invokestatic 110, 3) := by decide +kernel
theorem dX2_meet_101 : decode mX2_meet.2.1 101 = .ok (.iastore, 1) := by decide +kernel
theorem dX2_meet_102 : decode mX2_meet.2.1 102 = .ok (.iload 4, 2) := by decide +kernel
theorem dX2_meet_104 : decode mX2_meet.2.1 104 = .ok (.iload 5, 2) := by decide +kernel
theorem dX2_meet_106 : decode mX2_meet.2.1 106 = .ok (.if_icmp .ge 26, 3) := by decide +kernel
theorem dX2_meet_109 : decode mX2_meet.2.1 109 = .ok (.aload_n 1, 1) := by decide +kernel
theorem dX2_meet_110 : decode mX2_meet.2.1 110 = .ok (.getfield 78, 3) := by decide +kernel
theorem dX2_meet_113 : decode mX2_meet.2.1 113 = .ok (.iload_n 2, 1) := by decide +kernel
theorem dX2_meet_114 : decode mX2_meet.2.1 114 = .ok (.iload 5, 2) := by decide +kernel
theorem dX2_meet_116 : decode mX2_meet.2.1 116 = .ok (.iload 4, 2) := by decide +kernel
theorem dX2_meet_118 : decode mX2_meet.2.1 118 = .ok (.aload_n 0, 1) := by decide +kernel
theorem dX2_meet_119 : decode mX2_meet.2.1 119 = .ok (.getfield 15, 3) := by decide +kernel
theorem dX2_meet_122 : decode mX2_meet.2.1 122 = .ok (.iload_n 2, 1) := by decide +kernel
theorem dX2_meet_123 : decode mX2_meet.2.1 123 = .ok (.iaload, 1) := by decide +kernel
theorem dX2_meet_124 : decode mX2_meet.2.1 124 = .ok (.iadd, 1) := by decide +kernel
theorem dX2_meet_125 : decode mX2_meet.2.1 125 = .ok (.invokestatic 110, 3) := by decide +kernel
theorem dX2_meet_128 : decode mX2_meet.2.1 128 = .ok (.iastore, 1) := by decide +kernel
theorem dX2_meet_129 : decode mX2_meet.2.1 129 = .ok (.goto 30, 3) := by decide +kernel
theorem dX2_meet_132 : decode mX2_meet.2.1 132 = .ok (.iload 5, 2) := by decide +kernel
theorem dX2_meet_134 : decode mX2_meet.2.1 134 = .ok (.iload 4, 2) := by decide +kernel
theorem dX2_meet_136 : decode mX2_meet.2.1 136 = .ok (.if_icmp .ge 23, 3) := by decide +kernel
theorem dX2_meet_139 : decode mX2_meet.2.1 139 = .ok (.aload_n 1, 1) := by decide +kernel
theorem dX2_meet_140 : decode mX2_meet.2.1 140 = .ok (.getfield 78, 3) := by decide +kernel
theorem dX2_meet_143 : decode mX2_meet.2.1 143 = .ok (.iload_n 3, 1) := by decide +kernel
theorem dX2_meet_144 : decode mX2_meet.2.1 144 = .ok (.iload 4, 2) := by decide +kernel
theorem dX2_meet_146 : decode mX2_meet.2.1 146 = .ok (.iload 5, 2) := by decide +kernel
theorem dX2_meet_148 : decode mX2_meet.2.1 148 = .ok (.aload_n 0, 1) := by decide +kernel
theorem dX2_meet_149 : decode mX2_meet.2.1 149 = .ok (.getfield 15, 3) := by decide +kernel
theorem dX2_meet_152 : decode mX2_meet.2.1 152 = .ok (.iload_n 3, 1) := by decide +kernel
theorem dX2_meet_153 : decode mX2_meet.2.1 153 = .ok (.iaload, 1) := by decide +kernel
theorem dX2_meet_154 : decode mX2_meet.2.1 154 = .ok (.iadd, 1) := by decide +kernel
theorem dX2_meet_155 : decode mX2_meet.2.1 155 = .ok (.invokestatic 110, 3) := by decide +kernel
theorem dX2_meet_158 : decode mX2_meet.2.1 158 = .ok (.iastore, 1) := by decide +kernel
theorem dX2_meet_159 : decode mX2_meet.2.1 159 = .ok (.return_, 1) := by decide +kernel
theorem bX2_meet_0 {E : px_E} {d : Nat} {w : pw_W} {Q : Option Value → pw_W → Prop} {t : ct_T} (hw : w.1 = cs t) {x2 x3 : Int32} {r0 : Nat} (hr0 : is_Hamlet r0) {r1 : Nat} (hr1 : is_State r1) (j1 : Nat) (hj1 : x2 = nI j1) (hl1 : j1 < 6) (j2 : Nat) (hj2 : x3 = nI j2) (hl2 : j2 < 6)
    (k1 : px_Call E d 0 0 mX1_lumpsLeft [.ref (r0 + 10), .int (pw_I w (r1 + 2) j1), .int (pw_I w (r1 + 2) j2), .int (pw_I w (r1 + 1) j1), .int (pw_I w r1 3)] w (fun v w' => px_W E mX2_meet (d + 1) 0 0 37 [.ref r0, .ref r1, .int x2, .int x3, .int (pw_I w (r1 + 2) j1), .int (pw_I w (r1 + 2) j2), .null, .null] (v.toList ++ []) w' Q)) :
    px_W E mX2_meet (d + 1) 0 0 0 [.ref r0, .ref r1, .int x2, .int x3, .null, .null, .null, .null] [] w Q := by
  refine px_aload_n dX2_meet_0 rfl rfl ?_
  refine px_getR (v := (r1 + 2)) dX2_meet_1 fr_2_78 rfl (px_sh1 hw hr1.sh) (px_rf hw hr1.rf1) (Nat.succ_ne_zero _) ?_
  refine px_iload_n dX2_meet_4 rfl rfl ?_
  refine px_iald dX2_meet_5 (px_sh2 hw hr1.sh2) (by decide) j1 hj1 hl1 ?_
  refine px_istore (ls' := [.ref r0, .ref r1, .int x2, .int x3, .int (pw_I w (r1 + 2) j1), .null, .null, .null]) dX2_meet_6 ⟨by decide, rfl⟩ rfl ?_
  refine px_aload_n dX2_meet_8 rfl rfl ?_
  refine px_getR (v := (r1 + 2)) dX2_meet_9 fr_2_78 rfl (px_sh1 hw hr1.sh) (px_rf hw hr1.rf1) (Nat.succ_ne_zero _) ?_
  refine px_iload_n dX2_meet_12 rfl rfl ?_
  refine px_iald dX2_meet_13 (px_sh2 hw hr1.sh2) (by decide) j2 hj2 hl2 ?_
  refine px_istore (ls' := [.ref r0, .ref r1, .int x2, .int x3, .int (pw_I w (r1 + 2) j1), .int (pw_I w (r1 + 2) j2), .null, .null]) dX2_meet_14 ⟨by decide, rfl⟩ rfl ?_
  refine px_aload_n dX2_meet_16 rfl rfl ?_
  refine px_getR (v := (r0 + 10)) dX2_meet_17 fr_2_42 rfl (px_sh1 hw hr0.sh) (px_rf hw hr0.rf15) (Nat.succ_ne_zero _) ?_
  refine px_iload dX2_meet_20 rfl ?_
  refine px_iload dX2_meet_22 rfl ?_
  refine px_aload_n dX2_meet_24 rfl rfl ?_
  refine px_getR (v := (r1 + 1)) dX2_meet_25 fr_2_71 rfl (px_sh1 hw hr1.sh) (px_rf hw hr1.rf0) (Nat.succ_ne_zero _) ?_
  refine px_iload_n dX2_meet_28 rfl rfl ?_
  refine px_iald dX2_meet_29 (px_sh2 hw hr1.sh1) (by decide) j1 hj1 hl1 ?_
  refine px_aload_n dX2_meet_30 rfl rfl ?_
  refine px_getI dX2_meet_31 fr_2_79 rfl (px_sh1 hw hr1.sh) ?_
  exact px_callV (As := [.int (pw_I w (r1 + 2) j1), .int (pw_I w (r1 + 2) j2), .int (pw_I w (r1 + 1) j1), .int (pw_I w r1 3)]) (st := []) (rc := 0) (rs := 0) (mc := 0) (ms := 0) dX2_meet_34 lk_2_106 (px_sh1 hw hr0.is10.sh) rfl rfl (Nat.le_of_ble_eq_true rfl) k1
theorem eX2_meet {E : px_E} {d : Nat} {w : pw_W} {Q : Option Value → pw_W → Prop} {t : ct_T} (hw : w.1 = cs t) {x2 x3 : Int32} {r0 : Nat} (hr0 : is_Hamlet r0) {r1 : Nat} (hr1 : is_State r1) (j1 : Nat) (hj1 : x2 = nI j1) (hl1 : j1 < 6) (j2 : Nat) (hj2 : x3 = nI j2) (hl2 : j2 < 6)
    (k1 : px_Call E d 0 0 mX1_lumpsLeft [.ref (r0 + 10), .int (pw_I w (r1 + 2) j1), .int (pw_I w (r1 + 2) j2), .int (pw_I w (r1 + 1) j1), .int (pw_I w r1 3)] w (fun v w' => px_W E mX2_meet (d + 1) 0 0 37 [.ref r0, .ref r1, .int x2, .int x3, .int (pw_I w (r1 + 2) j1), .int (pw_I w (r1 + 2) j2), .null, .null] (v.toList ++ []) w' Q)) :
    px_Call E (d + 1) 0 0 mX2_meet [.ref r0, .ref r1, .int x2, .int x3] w Q :=
  px_enter (k := 4) (by decide) (Nat.le_of_ble_eq_true rfl) rfl (px_forget (bX2_meet_0 hw hr0 hr1 j1 hj1 hl1 j2 hj2 hl2 k1) ⟨Or.inr rfl, Or.inr rfl, Or.inr rfl, Or.inr rfl, Or.inl rfl, Or.inl rfl, Or.inl rfl, Or.inl rfl, trivial⟩)
theorem bX2_meet_37 {E : px_E} {d : Nat} {w : pw_W} {Q : Option Value → pw_W → Prop} {t : ct_T} (hw : w.1 = cs t) {x2 x3 x4 x5 y0 : Int32} {r0 : Nat} (hr0 : is_Hamlet r0) {r1 : Nat} (hr1 : is_State r1) (j1 : Nat) (hj1 : x3 = nI j1) (hl1 : j1 < 6)
    (k1 : px_Call E d 0 0 mX1_lumpsLeft [.ref (r0 + 10), .int x5, .int x4, .int (pw_I w (r1 + 1) j1), .int (pw_I w r1 3)] w (fun v w' => px_W E mX2_meet (d + 1) 0 0 60 [.ref r0, .ref r1, .int x2, .int x3, .int x4, .int x5, .int y0, .null] (v.toList ++ []) w' Q)) :
    px_W E mX2_meet (d + 1) 0 0 37 [.ref r0, .ref r1, .int x2, .int x3, .int x4, .int x5, .null, .null] [.int y0] w Q := by
  refine px_istore (ls' := [.ref r0, .ref r1, .int x2, .int x3, .int x4, .int x5, .int y0, .null]) dX2_meet_37 ⟨by decide, rfl⟩ rfl ?_
  refine px_aload_n dX2_meet_39 rfl rfl ?_
  refine px_getR (v := (r0 + 10)) dX2_meet_40 fr_2_42 rfl (px_sh1 hw hr0.sh) (px_rf hw hr0.rf15) (Nat.succ_ne_zero _) ?_
  refine px_iload dX2_meet_43 rfl ?_
  refine px_iload dX2_meet_45 rfl ?_
  refine px_aload_n dX2_meet_47 rfl rfl ?_
  refine px_getR (v := (r1 + 1)) dX2_meet_48 fr_2_71 rfl (px_sh1 hw hr1.sh) (px_rf hw hr1.rf0) (Nat.succ_ne_zero _) ?_
  refine px_iload_n dX2_meet_51 rfl rfl ?_
  refine px_iald dX2_meet_52 (px_sh2 hw hr1.sh1) (by decide) j1 hj1 hl1 ?_
  refine px_aload_n dX2_meet_53 rfl rfl ?_
  refine px_getI dX2_meet_54 fr_2_79 rfl (px_sh1 hw hr1.sh) ?_
  exact px_callV (As := [.int x5, .int x4, .int (pw_I w (r1 + 1) j1), .int (pw_I w r1 3)]) (st := []) (rc := 0) (rs := 0) (mc := 0) (ms := 0) dX2_meet_57 lk_2_106 (px_sh1 hw hr0.is10.sh) rfl rfl (Nat.le_of_ble_eq_true rfl) k1
theorem bX2_meet_60 {E : px_E} {d : Nat} {w : pw_W} {Q : Option Value → pw_W → Prop} {t : ct_T} (hw : w.1 = cs t) {x2 x3 x4 x5 x6 y0 : Int32} {r0 : Nat} (hr0 : is_Hamlet r0) {r1 : Nat} (hr1 : is_State r1) (j1 : Nat) (hj1 : x2 = nI j1) (hl1 : j1 < 6) (j2 : Nat) (hj2 : x3 = nI j2) (hl2 : j2 < 6)
    (k1 : px_W E mX2_meet (d + 1) 0 0 102 [.ref r0, .ref r1, .int x2, .int x3, .int x4, .int x5, .null, .null] [] (pw_sI (pw_sI w (r1 + 1) j1 (js_min 99 ((pw_I w (r1 + 1) j1) + x6))) (r1 + 1) j2 (js_min 99 ((pw_I (pw_sI w (r1 + 1) j1 (js_min 99 ((pw_I w (r1 + 1) j1) + x6))) (r1 + 1) j2) + y0))) Q) :
    px_W E mX2_meet (d + 1) 0 0 60 [.ref r0, .ref r1, .int x2, .int x3, .int x4, .int x5, .int x6, .null] [.int y0] w Q := by
  refine px_istore (ls' := [.ref r0, .ref r1, .int x2, .int x3, .int x4, .int x5, .int x6, .int y0]) dX2_meet_60 ⟨by decide, rfl⟩ rfl ?_
  refine px_aload_n dX2_meet_62 rfl rfl ?_
  refine px_getR (v := (r1 + 1)) dX2_meet_63 fr_2_71 rfl (px_sh1 hw hr1.sh) (px_rf hw hr1.rf0) (Nat.succ_ne_zero _) ?_
  refine px_iload_n dX2_meet_66 rfl rfl ?_
  refine px_bipush dX2_meet_67 bp_99 ?_
  refine px_aload_n dX2_meet_69 rfl rfl ?_
  refine px_getR (v := (r1 + 1)) dX2_meet_70 fr_2_71 rfl (px_sh1 hw hr1.sh) (px_rf hw hr1.rf0) (Nat.succ_ne_zero _) ?_
  refine px_iload_n dX2_meet_73 rfl rfl ?_
  refine px_iald dX2_meet_74 (px_sh2 hw hr1.sh1) (by decide) j1 hj1 hl1 ?_
  refine px_iload dX2_meet_75 rfl ?_
  refine px_iadd dX2_meet_77 ?_
  refine px_mmin dX2_meet_78 (px_in4 55 rfl rfl) (Nat.le_of_ble_eq_true rfl) (by omega) ?_
  refine px_iast dX2_meet_81 (px_sh2 hw hr1.sh1) (by decide) j1 hj1 hl1 (by omega) ?_
  refine px_aload_n dX2_meet_82 rfl rfl ?_
  refine px_getR (v := (r1 + 1)) dX2_meet_83 fr_2_71 rfl (px_sh1 (hI hw) hr1.sh) (px_rf (hI hw) hr1.rf0) (Nat.succ_ne_zero _) ?_
  refine px_iload_n dX2_meet_86 rfl rfl ?_
  refine px_bipush dX2_meet_87 bp_99 ?_
  refine px_aload_n dX2_meet_89 rfl rfl ?_
  refine px_getR (v := (r1 + 1)) dX2_meet_90 fr_2_71 rfl (px_sh1 (hI hw) hr1.sh) (px_rf (hI hw) hr1.rf0) (Nat.succ_ne_zero _) ?_
  refine px_iload_n dX2_meet_93 rfl rfl ?_
  refine px_iald dX2_meet_94 (px_sh2 (hI hw) hr1.sh1) (by decide) j2 hj2 hl2 ?_
  refine px_iload dX2_meet_95 rfl ?_
  refine px_iadd dX2_meet_97 ?_
  refine px_mmin dX2_meet_98 (px_in4 55 rfl rfl) (Nat.le_of_ble_eq_true rfl) (by omega) ?_
  refine px_iast dX2_meet_101 (px_sh2 (hI hw) hr1.sh1) (by decide) j2 hj2 hl2 (by omega) ?_
  exact px_forget k1 ⟨Or.inr rfl, Or.inr rfl, Or.inr rfl, Or.inr rfl, Or.inr rfl, Or.inr rfl, Or.inl rfl, Or.inl rfl, trivial⟩
theorem bX2_meet_102 {E : px_E} {d : Nat} {w : pw_W} {Q : Option Value → pw_W → Prop} {t : ct_T} (hw : w.1 = cs t) {x2 x3 x4 x5 : Int32} {r0 : Nat} (hr0 : is_Hamlet r0) {r1 : Nat} (hr1 : is_State r1) 
    (k1 : x5 ≤ x4 → x4 ≤ x5 → px_W E mX2_meet (d + 1) 0 0 159 [.null, .null, .null, .null, .null, .null, .null, .null] [] w Q)
    (k2 : x5 ≤ x4 → ¬ x4 ≤ x5 → px_W E mX2_meet (d + 1) 0 0 139 [.ref r0, .ref r1, .null, .int x3, .int x4, .int x5, .null, .null] [] w Q)
    (k3 : ¬ x5 ≤ x4 → px_W E mX2_meet (d + 1) 0 0 109 [.ref r0, .ref r1, .int x2, .null, .int x4, .int x5, .null, .null] [] w Q) :
    px_W E mX2_meet (d + 1) 0 0 102 [.ref r0, .ref r1, .int x2, .int x3, .int x4, .int x5, .null, .null] [] w Q := by
  refine px_iload dX2_meet_102 rfl ?_
  refine px_iload dX2_meet_104 rfl ?_
  refine px_icmp_ge (tgt := 132) dX2_meet_106 (by decide) (fun h1 => ?_) (fun h1 => ?_)
  ·
    refine px_iload dX2_meet_132 rfl ?_
    refine px_iload dX2_meet_134 rfl ?_
    refine px_icmp_ge (tgt := 159) dX2_meet_136 (by decide) (fun h2 => ?_) (fun h2 => ?_)
    ·
      exact px_forget (k1 h1 h2) ⟨Or.inl rfl, Or.inl rfl, Or.inl rfl, Or.inl rfl, Or.inl rfl, Or.inl rfl, Or.inl rfl, Or.inl rfl, trivial⟩
    ·
      exact px_forget (k2 h1 h2) ⟨Or.inr rfl, Or.inr rfl, Or.inl rfl, Or.inr rfl, Or.inr rfl, Or.inr rfl, Or.inl rfl, Or.inl rfl, trivial⟩
  ·
    exact px_forget (k3 h1) ⟨Or.inr rfl, Or.inr rfl, Or.inr rfl, Or.inl rfl, Or.inr rfl, Or.inr rfl, Or.inl rfl, Or.inl rfl, trivial⟩
theorem bX2_meet_109 {E : px_E} {d : Nat} {w : pw_W} {Q : Option Value → pw_W → Prop} {t : ct_T} (hw : w.1 = cs t) {x2 x4 x5 : Int32} {r0 : Nat} (hr0 : is_Hamlet r0) {r1 : Nat} (hr1 : is_State r1) (j1 : Nat) (hj1 : x2 = nI j1) (hl1 : j1 < 6)
    (k1 : px_W E mX2_meet (d + 1) 0 0 159 [.null, .null, .null, .null, .null, .null, .null, .null] [] (pw_sI w (r1 + 2) j1 (js_min x5 (x4 + (pw_I w (r0 + 2) j1)))) Q) :
    px_W E mX2_meet (d + 1) 0 0 109 [.ref r0, .ref r1, .int x2, .null, .int x4, .int x5, .null, .null] [] w Q := by
  refine px_aload_n dX2_meet_109 rfl rfl ?_
  refine px_getR (v := (r1 + 2)) dX2_meet_110 fr_2_78 rfl (px_sh1 hw hr1.sh) (px_rf hw hr1.rf1) (Nat.succ_ne_zero _) ?_
  refine px_iload_n dX2_meet_113 rfl rfl ?_
  refine px_iload dX2_meet_114 rfl ?_
  refine px_iload dX2_meet_116 rfl ?_
  refine px_aload_n dX2_meet_118 rfl rfl ?_
  refine px_getR (v := (r0 + 2)) dX2_meet_119 fr_2_15 rfl (px_sh1 hw hr0.sh) (px_rf hw hr0.rf2) (Nat.succ_ne_zero _) ?_
  refine px_iload_n dX2_meet_122 rfl rfl ?_
  refine px_iald dX2_meet_123 (px_sh2 hw hr0.sh2) (by decide) j1 hj1 hl1 ?_
  refine px_iadd dX2_meet_124 ?_
  refine px_mmin dX2_meet_125 (px_in4 55 rfl rfl) (Nat.le_of_ble_eq_true rfl) (by omega) ?_
  refine px_iast dX2_meet_128 (px_sh2 hw hr1.sh2) (by decide) j1 hj1 hl1 (by omega) ?_
  refine px_goto (tgt := 159) dX2_meet_129 (by decide) ?_
  exact px_forget k1 ⟨Or.inl rfl, Or.inl rfl, Or.inl rfl, Or.inl rfl, Or.inl rfl, Or.inl rfl, Or.inl rfl, Or.inl rfl, trivial⟩
theorem bX2_meet_139 {E : px_E} {d : Nat} {w : pw_W} {Q : Option Value → pw_W → Prop} {t : ct_T} (hw : w.1 = cs t) {x3 x4 x5 : Int32} {r0 : Nat} (hr0 : is_Hamlet r0) {r1 : Nat} (hr1 : is_State r1) (j1 : Nat) (hj1 : x3 = nI j1) (hl1 : j1 < 6)
    (k1 : px_W E mX2_meet (d + 1) 0 0 159 [.null, .null, .null, .null, .null, .null, .null, .null] [] (pw_sI w (r1 + 2) j1 (js_min x4 (x5 + (pw_I w (r0 + 2) j1)))) Q) :
    px_W E mX2_meet (d + 1) 0 0 139 [.ref r0, .ref r1, .null, .int x3, .int x4, .int x5, .null, .null] [] w Q := by
  refine px_aload_n dX2_meet_139 rfl rfl ?_
  refine px_getR (v := (r1 + 2)) dX2_meet_140 fr_2_78 rfl (px_sh1 hw hr1.sh) (px_rf hw hr1.rf1) (Nat.succ_ne_zero _) ?_
  refine px_iload_n dX2_meet_143 rfl rfl ?_
  refine px_iload dX2_meet_144 rfl ?_
  refine px_iload dX2_meet_146 rfl ?_
  refine px_aload_n dX2_meet_148 rfl rfl ?_
  refine px_getR (v := (r0 + 2)) dX2_meet_149 fr_2_15 rfl (px_sh1 hw hr0.sh) (px_rf hw hr0.rf2) (Nat.succ_ne_zero _) ?_
  refine px_iload_n dX2_meet_152 rfl rfl ?_
  refine px_iald dX2_meet_153 (px_sh2 hw hr0.sh2) (by decide) j1 hj1 hl1 ?_
  refine px_iadd dX2_meet_154 ?_
  refine px_mmin dX2_meet_155 (px_in4 55 rfl rfl) (Nat.le_of_ble_eq_true rfl) (by omega) ?_
  refine px_iast dX2_meet_158 (px_sh2 hw hr1.sh2) (by decide) j1 hj1 hl1 (by omega) ?_
  exact px_forget k1 ⟨Or.inl rfl, Or.inl rfl, Or.inl rfl, Or.inl rfl, Or.inl rfl, Or.inl rfl, Or.inl rfl, Or.inl rfl, trivial⟩
theorem bX2_meet_159 {E : px_E} {d : Nat} {w : pw_W} {Q : Option Value → pw_W → Prop} {t : ct_T} (hw : w.1 = cs t) {r0 : Nat} (hr0 : is_Hamlet r0) {r1 : Nat} (hr1 : is_State r1) 
    (k1 : Q none w) :
    px_W E mX2_meet (d + 1) 0 0 159 [.null, .null, .null, .null, .null, .null, .null, .null] [] w Q := by
  exact px_return dX2_meet_159 rfl k1
theorem dX2_flare_0 : decode mX2_flare.2.1 0 = .ok (.iconst 0, 1) := by decide +kernel
theorem dX2_flare_1 : decode mX2_flare.2.1 1 = .ok (.istore_n 2, 1) := by decide +kernel
theorem dX2_flare_2 : decode mX2_flare.2.1 2 = .ok (.iload_n 2, 1) := by decide +kernel
theorem dX2_flare_3 : decode mX2_flare.2.1 3 = .ok (.aload_n 0, 1) := by decide +kernel
theorem dX2_flare_4 : decode mX2_flare.2.1 4 = .ok (.getfield 49, 3) := by decide +kernel
theorem dX2_flare_7 : decode mX2_flare.2.1 7 = .ok (.if_icmp .ge 70, 3) := by decide +kernel
theorem dX2_flare_10 : decode mX2_flare.2.1 10 = .ok (.aload_n 1, 1) := by decide +kernel
theorem dX2_flare_11 : decode mX2_flare.2.1 11 = .ok (.getfield 71, 3) := by decide +kernel
theorem dX2_flare_14 : decode mX2_flare.2.1 14 = .ok (.iload_n 2, 1) := by decide +kernel
theorem dX2_flare_15 : decode mX2_flare.2.1 15 = .ok (.iaload, 1) := by decide +kernel
theorem dX2_flare_16 : decode mX2_flare.2.1 16 = .ok (.ifCond .le 55, 3) := by decide +kernel
theorem dX2_flare_19 : decode mX2_flare.2.1 19 = .ok (.aload_n 1, 1) := by decide +kernel
theorem dX2_flare_20 : decode mX2_flare.2.1 20 = .ok (.aload_n 1, 1) := by decide +kernel
theorem dX2_flare_21 : decode mX2_flare.2.1 21 = .ok (.getfield 113, 3) := by decide +kernel
theorem dX2_flare_24 : decode mX2_flare.2.1 24 = .ok (.sipush 137, 3) := by decide +kernel
theorem dX2_flare_27 : decode mX2_flare.2.1 27 = .ok (.imul, 1) := by decide +kernel
theorem dX2_flare_28 : decode mX2_flare.2.1 28 = .ok (.bipush 71, 2) := by decide +kernel
theorem dX2_flare_30 : decode mX2_flare.2.1 30 = .ok (.iadd, 1) := by decide +kernel
theorem dX2_flare_31 : decode mX2_flare.2.1 31 = .ok (.sipush 1000, 3) := by decide +kernel
theorem dX2_flare_34 : decode mX2_flare.2.1 34 = .ok (.irem, 1) := by decide +kernel
theorem dX2_flare_35 : decode mX2_flare.2.1 35 = .ok (.putfield 113, 3) := by decide +kernel
theorem dX2_flare_38 : decode mX2_flare.2.1 38 = .ok (.aload_n 1, 1) := by decide +kernel
theorem dX2_flare_39 : decode mX2_flare.2.1 39 = .ok (.getfield 113, 3) := by decide +kernel
theorem dX2_flare_42 : decode mX2_flare.2.1 42 = .ok (.bipush 100, 2) := by decide +kernel
theorem dX2_flare_44 : decode mX2_flare.2.1 44 = .ok (.irem, 1) := by decide +kernel
theorem dX2_flare_45 : decode mX2_flare.2.1 45 = .ok (.aload_n 0, 1) := by decide +kernel
theorem dX2_flare_46 : decode mX2_flare.2.1 46 = .ok (.getfield 62, 3) := by decide +kernel
theorem dX2_flare_49 : decode mX2_flare.2.1 49 = .ok (.if_icmp .ge 22, 3) := by decide +kernel
theorem dX2_flare_52 : decode mX2_flare.2.1 52 = .ok (.aload_n 1, 1) := by decide +kernel
theorem dX2_flare_53 : decode mX2_flare.2.1 53 = .ok (.getfield 71, 3) := by decide +kernel
theorem dX2_flare_56 : decode mX2_flare.2.1 56 = .ok (.iload_n 2, 1) := by decide +kernel
theorem dX2_flare_57 : decode mX2_flare.2.1 57 = .ok (.bipush 99, 2) := by decide +kernel
theorem dX2_flare_59 : decode mX2_flare.2.1 59 = .ok (.aload_n 1, 1) := by decide +kernel
theorem dX2_flare_60 : decode mX2_flare.2.1 60 = .ok (.getfield 71, 3) := by decide +kernel
theorem dX2_flare_63 : decode mX2_flare.2.1 63 = .ok (.iload_n 2, 1) := by decide +kernel
theorem dX2_flare_64 : decode mX2_flare.2.1 64 = .ok (.iaload, 1) := by decide +kernel
theorem dX2_flare_65 : decode mX2_flare.2.1 65 = .ok (.iconst 1, 1) := by decide +kernel
theorem dX2_flare_66 : decode mX2_flare.2.1 66 = .ok (.iadd, 1) := by decide +kernel
theorem dX2_flare_67 : decode mX2_flare.2.1 67 = .ok (.invokestatic 110, 3) := by decide +kernel
theorem dX2_flare_70 : decode mX2_flare.2.1 70 = .ok (.iastore, 1) := by decide +kernel
theorem dX2_flare_71 : decode mX2_flare.2.1 71 = .ok (.iinc 2 1, 3) := by decide +kernel
theorem dX2_flare_74 : decode mX2_flare.2.1 74 = .ok (.goto (-72), 3) := by decide +kernel
theorem dX2_flare_77 : decode mX2_flare.2.1 77 = .ok (.return_, 1) := by decide +kernel
theorem bX2_flare_0 {E : px_E} {d : Nat} {w : pw_W} {Q : Option Value → pw_W → Prop} {t : ct_T} (hw : w.1 = cs t) {r0 : Nat} (hr0 : is_Hamlet r0) {r1 : Nat} (hr1 : is_State r1) 
    (k1 : px_W E mX2_flare (d + 1) 0 0 2 [.ref r0, .ref r1, .int 0] [] w Q) :
    px_W E mX2_flare (d + 1) 0 0 0 [.ref r0, .ref r1, .null] [] w Q := by
  refine px_iconst dX2_flare_0 ic_0 ?_
  refine px_istore_n (ls' := [.ref r0, .ref r1, .int 0]) dX2_flare_1 rfl ⟨by decide, rfl⟩ rfl ?_
  exact k1
theorem eX2_flare {E : px_E} {d : Nat} {w : pw_W} {Q : Option Value → pw_W → Prop} {t : ct_T} (hw : w.1 = cs t) {r0 : Nat} (hr0 : is_Hamlet r0) {r1 : Nat} (hr1 : is_State r1) 
    (k1 : px_W E mX2_flare (d + 1) 0 0 2 [.ref r0, .ref r1, .int 0] [] w Q) :
    px_Call E (d + 1) 0 0 mX2_flare [.ref r0, .ref r1] w Q :=
  px_enter (k := 1) (by decide) (Nat.le_of_ble_eq_true rfl) rfl (px_forget (bX2_flare_0 hw hr0 hr1 k1) ⟨Or.inr rfl, Or.inr rfl, Or.inl rfl, trivial⟩)
theorem bX2_flare_2 {E : px_E} {d : Nat} {w : pw_W} {Q : Option Value → pw_W → Prop} {t : ct_T} (hw : w.1 = cs t) {x2 : Int32} {r0 : Nat} (hr0 : is_Hamlet r0) {r1 : Nat} (hr1 : is_State r1) 
    (k1 : (pw_I w r0 0) ≤ x2 → Q none w)
    (k2 : ¬ (pw_I w r0 0) ≤ x2 → px_W E mX2_flare (d + 1) 0 0 10 [.ref r0, .ref r1, .int x2] [] w Q) :
    px_W E mX2_flare (d + 1) 0 0 2 [.ref r0, .ref r1, .int x2] [] w Q := by
  refine px_iload_n dX2_flare_2 rfl rfl ?_
  refine px_aload_n dX2_flare_3 rfl rfl ?_
  refine px_getI dX2_flare_4 fr_2_49 rfl (px_sh1 hw hr0.sh) ?_
  refine px_icmp_ge (tgt := 77) dX2_flare_7 (by decide) (fun h1 => ?_) (fun h1 => ?_)
  ·
    exact px_return dX2_flare_77 rfl (k1 h1)
  ·
    exact (k2 h1)
theorem bX2_flare_10 {E : px_E} {d : Nat} {w : pw_W} {Q : Option Value → pw_W → Prop} {t : ct_T} (hw : w.1 = cs t) {x2 : Int32} {r0 : Nat} (hr0 : is_Hamlet r0) {r1 : Nat} (hr1 : is_State r1) (j1 : Nat) (hj1 : x2 = nI j1) (hl1 : j1 < 6)
    (k1 : (pw_I w (r1 + 1) j1) ≤ 0 → px_W E mX2_flare (d + 1) 0 0 71 [.ref r0, .ref r1, .int x2] [] w Q)
    (k2 : ¬ (pw_I w (r1 + 1) j1) ≤ 0 → px_W E mX2_flare (d + 1) 0 0 19 [.ref r0, .ref r1, .int x2] [] w Q) :
    px_W E mX2_flare (d + 1) 0 0 10 [.ref r0, .ref r1, .int x2] [] w Q := by
  refine px_aload_n dX2_flare_10 rfl rfl ?_
  refine px_getR (v := (r1 + 1)) dX2_flare_11 fr_2_71 rfl (px_sh1 hw hr1.sh) (px_rf hw hr1.rf0) (Nat.succ_ne_zero _) ?_
  refine px_iload_n dX2_flare_14 rfl rfl ?_
  refine px_iald dX2_flare_15 (px_sh2 hw hr1.sh1) (by decide) j1 hj1 hl1 ?_
  refine px_if_le (tgt := 71) dX2_flare_16 (by decide) (fun h1 => ?_) (fun h1 => ?_)
  ·
    exact (k1 h1)
  ·
    exact (k2 h1)
theorem bX2_flare_19 {E : px_E} {d : Nat} {w : pw_W} {Q : Option Value → pw_W → Prop} {t : ct_T} (hw : w.1 = cs t) {x2 : Int32} {r0 : Nat} (hr0 : is_Hamlet r0) {r1 : Nat} (hr1 : is_State r1) 
    (k1 : (pw_I (pw_sI w r1 4 (js_rem (((pw_I w r1 4) * 137) + 71) 1000)) r0 13) ≤ (js_rem (pw_I (pw_sI w r1 4 (js_rem (((pw_I w r1 4) * 137) + 71) 1000)) r1 4) 100) → px_W E mX2_flare (d + 1) 0 0 71 [.ref r0, .ref r1, .int x2] [] (pw_sI w r1 4 (js_rem (((pw_I w r1 4) * 137) + 71) 1000)) Q)
    (k2 : ¬ (pw_I (pw_sI w r1 4 (js_rem (((pw_I w r1 4) * 137) + 71) 1000)) r0 13) ≤ (js_rem (pw_I (pw_sI w r1 4 (js_rem (((pw_I w r1 4) * 137) + 71) 1000)) r1 4) 100) → px_W E mX2_flare (d + 1) 0 0 52 [.ref r0, .ref r1, .int x2] [] (pw_sI w r1 4 (js_rem (((pw_I w r1 4) * 137) + 71) 1000)) Q) :
    px_W E mX2_flare (d + 1) 0 0 19 [.ref r0, .ref r1, .int x2] [] w Q := by
  refine px_aload_n dX2_flare_19 rfl rfl ?_
  refine px_aload_n dX2_flare_20 rfl rfl ?_
  refine px_getI dX2_flare_21 fr_2_113 rfl (px_sh1 hw hr1.sh) ?_
  refine px_sipush dX2_flare_24 sp_137 ?_
  refine px_imul dX2_flare_27 ?_
  refine px_bipush dX2_flare_28 bp_71 ?_
  refine px_iadd dX2_flare_30 ?_
  refine px_sipush dX2_flare_31 sp_1000 ?_
  refine px_irem dX2_flare_34 (by decide) ?_
  refine px_putI dX2_flare_35 fl_2_113 (Or.inl rfl) rfl (px_sh1 hw hr1.sh) rfl rfl (by omega) ?_
  refine px_aload_n dX2_flare_38 rfl rfl ?_
  refine px_getI dX2_flare_39 fr_2_113 rfl (px_sh1 (hI hw) hr1.sh) ?_
  refine px_bipush dX2_flare_42 bp_100 ?_
  refine px_irem dX2_flare_44 (by decide) ?_
  refine px_aload_n dX2_flare_45 rfl rfl ?_
  refine px_getI dX2_flare_46 fr_2_62 rfl (px_sh1 (hI hw) hr0.sh) ?_
  refine px_icmp_ge (tgt := 71) dX2_flare_49 (by decide) (fun h1 => ?_) (fun h1 => ?_)
  ·
    exact (k1 h1)
  ·
    exact (k2 h1)
theorem bX2_flare_52 {E : px_E} {d : Nat} {w : pw_W} {Q : Option Value → pw_W → Prop} {t : ct_T} (hw : w.1 = cs t) {x2 : Int32} {r0 : Nat} (hr0 : is_Hamlet r0) {r1 : Nat} (hr1 : is_State r1) (j1 : Nat) (hj1 : x2 = nI j1) (hl1 : j1 < 6)
    (k1 : px_W E mX2_flare (d + 1) 0 0 71 [.ref r0, .ref r1, .int x2] [] (pw_sI w (r1 + 1) j1 (js_min 99 ((pw_I w (r1 + 1) j1) + 1))) Q) :
    px_W E mX2_flare (d + 1) 0 0 52 [.ref r0, .ref r1, .int x2] [] w Q := by
  refine px_aload_n dX2_flare_52 rfl rfl ?_
  refine px_getR (v := (r1 + 1)) dX2_flare_53 fr_2_71 rfl (px_sh1 hw hr1.sh) (px_rf hw hr1.rf0) (Nat.succ_ne_zero _) ?_
  refine px_iload_n dX2_flare_56 rfl rfl ?_
  refine px_bipush dX2_flare_57 bp_99 ?_
  refine px_aload_n dX2_flare_59 rfl rfl ?_
  refine px_getR (v := (r1 + 1)) dX2_flare_60 fr_2_71 rfl (px_sh1 hw hr1.sh) (px_rf hw hr1.rf0) (Nat.succ_ne_zero _) ?_
  refine px_iload_n dX2_flare_63 rfl rfl ?_
  refine px_iald dX2_flare_64 (px_sh2 hw hr1.sh1) (by decide) j1 hj1 hl1 ?_
  refine px_iconst dX2_flare_65 ic_1 ?_
  refine px_iadd dX2_flare_66 ?_
  refine px_mmin dX2_flare_67 (px_in4 55 rfl rfl) (Nat.le_of_ble_eq_true rfl) (by omega) ?_
  refine px_iast dX2_flare_70 (px_sh2 hw hr1.sh1) (by decide) j1 hj1 hl1 (by omega) ?_
  exact k1
theorem bX2_flare_71 {E : px_E} {d : Nat} {w : pw_W} {Q : Option Value → pw_W → Prop} {t : ct_T} (hw : w.1 = cs t) {x2 : Int32} {r0 : Nat} (hr0 : is_Hamlet r0) {r1 : Nat} (hr1 : is_State r1) 
    (k1 : px_W E mX2_flare (d + 1) 0 0 2 [.ref r0, .ref r1, .int (x2 + 1)] [] w Q) :
    px_W E mX2_flare (d + 1) 0 0 71 [.ref r0, .ref r1, .int x2] [] w Q := by
  refine px_iinc (ls' := [.ref r0, .ref r1, .int (x2 + 1)]) dX2_flare_71 ⟨by decide, rfl⟩ rfl rfl rfl ?_
  refine px_goto (tgt := 2) dX2_flare_74 (by decide) ?_
  exact k1
theorem dX3_restart_0 : decode mX3_restart.2.1 0 = .ok (.aload_n 0, 1) := by decide +kernel
theorem dX3_restart_1 : decode mX3_restart.2.1 1 = .ok (.iconst 0, 1) := by decide +kernel
theorem dX3_restart_2 : decode mX3_restart.2.1 2 = .ok (.putfield 15, 3) := by decide +kernel
theorem dX3_restart_5 : decode mX3_restart.2.1 5 = .ok (.aload_n 0, 1) := by decide +kernel
theorem dX3_restart_6 : decode mX3_restart.2.1 6 = .ok (.iconst 0, 1) := by decide +kernel
theorem dX3_restart_7 : decode mX3_restart.2.1 7 = .ok (.putfield 19, 3) := by decide +kernel
theorem dX3_restart_10 : decode mX3_restart.2.1 10 = .ok (.aload_n 1, 1) := by decide +kernel
theorem dX3_restart_11 : decode mX3_restart.2.1 11 = .ok (.aload_n 0, 1) := by decide +kernel
theorem dX3_restart_12 : decode mX3_restart.2.1 12 = .ok (.getfield 11, 3) := by decide +kernel
theorem dX3_restart_15 : decode mX3_restart.2.1 15 = .ok (.iconst 0, 1) := by decide +kernel
theorem dX3_restart_16 : decode mX3_restart.2.1 16 = .ok (.invokevirtual 22, 3) := by decide +kernel
theorem dX3_restart_19 : decode mX3_restart.2.1 19 = .ok (.return_, 1) := by decide +kernel
theorem bX3_restart_0 {E : px_E} {d : Nat} {w : pw_W} {Q : Option Value → pw_W → Prop} {t : ct_T} (hw : w.1 = cs t) {r1 : Nat} (hr1 : is_State r1) 
    (k1 : px_Call E d 0 0 mX8_writeTo [.ref r1, .ref 39, .int 0] (pw_sI (pw_sI w 38 1 0) 38 2 0) (fun v w' => px_W E mX3_restart (d + 1) 0 0 19 [.null, .null] (v.toList ++ []) w' Q)) :
    px_W E mX3_restart (d + 1) 0 0 0 [.ref 38, .ref r1] [] w Q := by
  refine px_aload_n dX3_restart_0 rfl rfl ?_
  refine px_iconst dX3_restart_1 ic_0 ?_
  refine px_putI dX3_restart_2 fl_3_15 (Or.inl rfl) rfl (px_sh1 hw sh_38) rfl rfl (by omega) ?_
  refine px_aload_n dX3_restart_5 rfl rfl ?_
  refine px_iconst dX3_restart_6 ic_0 ?_
  refine px_putI dX3_restart_7 fl_3_19 (Or.inl rfl) rfl (px_sh1 (hI hw) sh_38) rfl rfl (by omega) ?_
  refine px_aload_n dX3_restart_10 rfl rfl ?_
  refine px_aload_n dX3_restart_11 rfl rfl ?_
  refine px_getR (v := 39) dX3_restart_12 fr_3_11 rfl (px_sh1 (hI (hI hw)) sh_38) (px_rf (hI (hI hw)) rf_38_0) (by decide) ?_
  refine px_iconst dX3_restart_15 ic_0 ?_
  refine px_forget (ls' := [.null, .null]) ?_ ⟨Or.inl rfl, Or.inl rfl, trivial⟩
  exact px_callV (As := [.ref 39, .int 0]) (st := []) (rc := 0) (rs := 0) (mc := 0) (ms := 0) dX3_restart_16 lk_3_22 (px_sh1 (hI (hI hw)) hr1.sh) rfl rfl (Nat.le_of_ble_eq_true rfl) k1
theorem eX3_restart {E : px_E} {d : Nat} {w : pw_W} {Q : Option Value → pw_W → Prop} {t : ct_T} (hw : w.1 = cs t) {r1 : Nat} (hr1 : is_State r1) 
    (k1 : px_Call E d 0 0 mX8_writeTo [.ref r1, .ref 39, .int 0] (pw_sI (pw_sI w 38 1 0) 38 2 0) (fun v w' => px_W E mX3_restart (d + 1) 0 0 19 [.null, .null] (v.toList ++ []) w' Q)) :
    px_Call E (d + 1) 0 0 mX3_restart [.ref 38, .ref r1] w Q :=
  px_enter (k := 0) (by decide) (Nat.le_of_ble_eq_true rfl) rfl (px_forget (bX3_restart_0 hw hr1 k1) ⟨Or.inr rfl, Or.inr rfl, trivial⟩)
theorem bX3_restart_19 {E : px_E} {d : Nat} {w : pw_W} {Q : Option Value → pw_W → Prop} {t : ct_T} (hw : w.1 = cs t) {r1 : Nat} (hr1 : is_State r1) 
    (k1 : Q none w) :
    px_W E mX3_restart (d + 1) 0 0 19 [.null, .null] [] w Q := by
  exact px_return dX3_restart_19 rfl k1
theorem dX3_keepAct_0 : decode mX3_keepAct.2.1 0 = .ok (.aload_n 0, 1) := by decide +kernel
theorem dX3_keepAct_1 : decode mX3_keepAct.2.1 1 = .ok (.getfield 15, 3) := by decide +kernel
theorem dX3_keepAct_4 : decode mX3_keepAct.2.1 4 = .ok (.bipush 40, 2) := by decide +kernel
theorem dX3_keepAct_6 : decode mX3_keepAct.2.1 6 = .ok (.if_icmp .lt 26, 3) := by decide +kernel
theorem dX3_keepAct_9 : decode mX3_keepAct.2.1 9 = .ok (.aload_n 0, 1) := by decide +kernel
theorem dX3_keepAct_10 : decode mX3_keepAct.2.1 10 = .ok (.getfield 11, 3) := by decide +kernel
theorem dX3_keepAct_13 : decode mX3_keepAct.2.1 13 = .ok (.bipush 15, 2) := by decide +kernel
theorem dX3_keepAct_15 : decode mX3_keepAct.2.1 15 = .ok (.aload_n 0, 1) := by decide +kernel
theorem dX3_keepAct_16 : decode mX3_keepAct.2.1 16 = .ok (.getfield 11, 3) := by decide +kernel
theorem dX3_keepAct_19 : decode mX3_keepAct.2.1 19 = .ok (.iconst 0, 1) := by decide +kernel
theorem dX3_keepAct_20 : decode mX3_keepAct.2.1 20 = .ok (.sipush 600, 3) := by decide +kernel
theorem dX3_keepAct_23 : decode mX3_keepAct.2.1 23 = .ok (.invokestatic 26, 3) := by decide +kernel
theorem dX3_keepAct_26 : decode mX3_keepAct.2.1 26 = .ok (.aload_n 0, 1) := by decide +kernel
theorem dX3_keepAct_27 : decode mX3_keepAct.2.1 27 = .ok (.bipush 39, 2) := by decide +kernel
theorem dX3_keepAct_29 : decode mX3_keepAct.2.1 29 = .ok (.putfield 15, 3) := by decide +kernel
theorem dX3_keepAct_32 : decode mX3_keepAct.2.1 32 = .ok (.aload_n 0, 1) := by decide +kernel
theorem dX3_keepAct_33 : decode mX3_keepAct.2.1 33 = .ok (.dup, 1) := by decide +kernel
theorem dX3_keepAct_34 : decode mX3_keepAct.2.1 34 = .ok (.getfield 15, 3) := by decide +kernel
theorem dX3_keepAct_37 : decode mX3_keepAct.2.1 37 = .ok (.iconst 1, 1) := by decide +kernel
theorem dX3_keepAct_38 : decode mX3_keepAct.2.1 38 = .ok (.iadd, 1) := by decide +kernel
theorem dX3_keepAct_39 : decode mX3_keepAct.2.1 39 = .ok (.putfield 15, 3) := by decide +kernel
theorem dX3_keepAct_42 : decode mX3_keepAct.2.1 42 = .ok (.aload_n 0, 1) := by decide +kernel
theorem dX3_keepAct_43 : decode mX3_keepAct.2.1 43 = .ok (.aload_n 0, 1) := by decide +kernel
theorem dX3_keepAct_44 : decode mX3_keepAct.2.1 44 = .ok (.getfield 15, 3) := by decide +kernel
theorem dX3_keepAct_47 : decode mX3_keepAct.2.1 47 = .ok (.putfield 19, 3) := by decide +kernel
theorem dX3_keepAct_50 : decode mX3_keepAct.2.1 50 = .ok (.aload_n 1, 1) := by decide +kernel
theorem dX3_keepAct_51 : decode mX3_keepAct.2.1 51 = .ok (.aload_n 0, 1) := by decide +kernel
theorem dX3_keepAct_52 : decode mX3_keepAct.2.1 52 = .ok (.getfield 11, 3) := by decide +kernel
theorem dX3_keepAct_55 : decode mX3_keepAct.2.1 55 = .ok (.aload_n 0, 1) := by decide +kernel
theorem dX3_keepAct_56 : decode mX3_keepAct.2.1 56 = .ok (.getfield 15, 3) := by decide +kernel
theorem dX3_keepAct_59 : decode mX3_keepAct.2.1 59 = .ok (.invokevirtual 22, 3) := by decide +kernel
theorem dX3_keepAct_62 : decode mX3_keepAct.2.1 62 = .ok (.return_, 1) := by decide +kernel
theorem bX3_keepAct_0 {E : px_E} {d : Nat} {w : pw_W} {Q : Option Value → pw_W → Prop} {t : ct_T} (hw : w.1 = cs t) {r1 : Nat} (hr1 : is_State r1) 
    (k1 : (pw_I w 38 1) < 40 → px_W E mX3_keepAct (d + 1) 0 0 32 [.ref 38, .ref r1] [] w Q)
    (k2 : ¬ (pw_I w 38 1) < 40 → px_W E mX3_keepAct (d + 1) 0 0 9 [.ref 38, .ref r1] [] w Q) :
    px_W E mX3_keepAct (d + 1) 0 0 0 [.ref 38, .ref r1] [] w Q := by
  refine px_aload_n dX3_keepAct_0 rfl rfl ?_
  refine px_getI dX3_keepAct_1 fr_3_15 rfl (px_sh1 hw sh_38) ?_
  refine px_bipush dX3_keepAct_4 bp_40 ?_
  refine px_icmp_lt (tgt := 32) dX3_keepAct_6 (by decide) (fun h1 => ?_) (fun h1 => ?_)
  ·
    exact (k1 h1)
  ·
    exact (k2 h1)
theorem eX3_keepAct {E : px_E} {d : Nat} {w : pw_W} {Q : Option Value → pw_W → Prop} {t : ct_T} (hw : w.1 = cs t) {r1 : Nat} (hr1 : is_State r1) 
    (k1 : (pw_I w 38 1) < 40 → px_W E mX3_keepAct (d + 1) 0 0 32 [.ref 38, .ref r1] [] w Q)
    (k2 : ¬ (pw_I w 38 1) < 40 → px_W E mX3_keepAct (d + 1) 0 0 9 [.ref 38, .ref r1] [] w Q) :
    px_Call E (d + 1) 0 0 mX3_keepAct [.ref 38, .ref r1] w Q :=
  px_enter (k := 0) (by decide) (Nat.le_of_ble_eq_true rfl) rfl (px_forget (bX3_keepAct_0 hw hr1 k1 k2) ⟨Or.inr rfl, Or.inr rfl, trivial⟩)
theorem bX3_keepAct_9 {E : px_E} {d : Nat} {w : pw_W} {Q : Option Value → pw_W → Prop} {t : ct_T} (hw : w.1 = cs t) {r1 : Nat} (hr1 : is_State r1) 
    (k1 : px_W E mX3_keepAct (d + 1) 0 0 32 [.ref 38, .ref r1] [] (pw_sI (pw_sA w 39 (va_cpy (pw_I w 39) (pw_I w 39) 15 0 600)) 38 1 39) Q) :
    px_W E mX3_keepAct (d + 1) 0 0 9 [.ref 38, .ref r1] [] w Q := by
  refine px_aload_n dX3_keepAct_9 rfl rfl ?_
  refine px_getR (v := 39) dX3_keepAct_10 fr_3_11 rfl (px_sh1 hw sh_38) (px_rf hw rf_38_0) (by decide) ?_
  refine px_bipush dX3_keepAct_13 bp_15 ?_
  refine px_aload_n dX3_keepAct_15 rfl rfl ?_
  refine px_getR (v := 39) dX3_keepAct_16 fr_3_11 rfl (px_sh1 hw sh_38) (px_rf hw rf_38_0) (by decide) ?_
  refine px_iconst dX3_keepAct_19 ic_0 ?_
  refine px_sipush dX3_keepAct_20 sp_600 ?_
  refine px_copy dX3_keepAct_23 (px_in4 69 rfl rfl) (px_sh2 hw sh_39) (px_sh2 hw sh_39) (by decide) (by decide) 15 0 600 rfl rfl rfl (by decide) (by decide) (Nat.le_of_ble_eq_true rfl) (by omega) ?_
  refine px_aload_n dX3_keepAct_26 rfl rfl ?_
  refine px_bipush dX3_keepAct_27 bp_39 ?_
  refine px_putI dX3_keepAct_29 fl_3_15 (Or.inl rfl) rfl (px_sh1 (hA hw) sh_38) rfl rfl (by omega) ?_
  exact k1
theorem bX3_keepAct_32 {E : px_E} {d : Nat} {w : pw_W} {Q : Option Value → pw_W → Prop} {t : ct_T} (hw : w.1 = cs t) {r1 : Nat} (hr1 : is_State r1) 
    (k1 : px_Call E d 0 0 mX8_writeTo [.ref r1, .ref 39, .int ((pw_I w 38 1) + 1)] (pw_sI (pw_sI w 38 1 ((pw_I w 38 1) + 1)) 38 2 ((pw_I w 38 1) + 1)) (fun v w' => px_W E mX3_keepAct (d + 1) 0 0 62 [.null, .null] (v.toList ++ []) w' Q)) :
    px_W E mX3_keepAct (d + 1) 0 0 32 [.ref 38, .ref r1] [] w Q := by
  refine px_aload_n dX3_keepAct_32 rfl rfl ?_
  refine px_dup dX3_keepAct_33 rfl ?_
  refine px_getI dX3_keepAct_34 fr_3_15 rfl (px_sh1 hw sh_38) ?_
  refine px_iconst dX3_keepAct_37 ic_1 ?_
  refine px_iadd dX3_keepAct_38 ?_
  refine px_putI dX3_keepAct_39 fl_3_15 (Or.inl rfl) rfl (px_sh1 hw sh_38) rfl rfl (by omega) ?_
  refine px_aload_n dX3_keepAct_42 rfl rfl ?_
  refine px_aload_n dX3_keepAct_43 rfl rfl ?_
  refine px_getIv (v := ((pw_I w 38 1) + 1)) dX3_keepAct_44 fr_3_15 rfl (px_sh1 (hI hw) sh_38) rfl ?_
  refine px_putI dX3_keepAct_47 fl_3_19 (Or.inl rfl) rfl (px_sh1 (hI hw) sh_38) rfl rfl (by omega) ?_
  refine px_aload_n dX3_keepAct_50 rfl rfl ?_
  refine px_aload_n dX3_keepAct_51 rfl rfl ?_
  refine px_getR (v := 39) dX3_keepAct_52 fr_3_11 rfl (px_sh1 (hI (hI hw)) sh_38) (px_rf (hI (hI hw)) rf_38_0) (by decide) ?_
  refine px_aload_n dX3_keepAct_55 rfl rfl ?_
  refine px_getIv (v := ((pw_I w 38 1) + 1)) dX3_keepAct_56 fr_3_15 rfl (px_sh1 (hI (hI hw)) sh_38) rfl ?_
  refine px_forget (ls' := [.null, .null]) ?_ ⟨Or.inl rfl, Or.inl rfl, trivial⟩
  exact px_callV (As := [.ref 39, .int ((pw_I w 38 1) + 1)]) (st := []) (rc := 0) (rs := 0) (mc := 0) (ms := 0) dX3_keepAct_59 lk_3_22 (px_sh1 (hI (hI hw)) hr1.sh) rfl rfl (Nat.le_of_ble_eq_true rfl) k1
theorem bX3_keepAct_62 {E : px_E} {d : Nat} {w : pw_W} {Q : Option Value → pw_W → Prop} {t : ct_T} (hw : w.1 = cs t) {r1 : Nat} (hr1 : is_State r1) 
    (k1 : Q none w) :
    px_W E mX3_keepAct (d + 1) 0 0 62 [.null, .null] [] w Q := by
  exact px_return dX3_keepAct_62 rfl k1
theorem dX3_stepBack_0 : decode mX3_stepBack.2.1 0 = .ok (.aload_n 0, 1) := by decide +kernel
theorem dX3_stepBack_1 : decode mX3_stepBack.2.1 1 = .ok (.getfield 15, 3) := by decide +kernel
theorem dX3_stepBack_4 : decode mX3_stepBack.2.1 4 = .ok (.ifCond .ne 5, 3) := by decide +kernel
theorem dX3_stepBack_7 : decode mX3_stepBack.2.1 7 = .ok (.iconst 0, 1) := by decide +kernel
theorem dX3_stepBack_8 : decode mX3_stepBack.2.1 8 = .ok (.ireturn, 1) := by decide +kernel
theorem dX3_stepBack_9 : decode mX3_stepBack.2.1 9 = .ok (.aload_n 0, 1) := by decide +kernel
theorem dX3_stepBack_10 : decode mX3_stepBack.2.1 10 = .ok (.dup, 1) := by decide +kernel
theorem dX3_stepBack_11 : decode mX3_stepBack.2.1 11 = .ok (.getfield 15, 3) := by decide +kernel
theorem dX3_stepBack_14 : decode mX3_stepBack.2.1 14 = .ok (.iconst 1, 1) := by decide +kernel
theorem dX3_stepBack_15 : decode mX3_stepBack.2.1 15 = .ok (.isub, 1) := by decide +kernel
theorem dX3_stepBack_16 : decode mX3_stepBack.2.1 16 = .ok (.putfield 15, 3) := by decide +kernel
theorem dX3_stepBack_19 : decode mX3_stepBack.2.1 19 = .ok (.aload_n 1, 1) := by decide +kernel
theorem dX3_stepBack_20 : decode mX3_stepBack.2.1 20 = .ok (.aload_n 0, 1) := by decide +kernel
theorem dX3_stepBack_21 : decode mX3_stepBack.2.1 21 = .ok (.getfield 11, 3) := by decide +kernel
theorem dX3_stepBack_24 : decode mX3_stepBack.2.1 24 = .ok (.aload_n 0, 1) := by decide +kernel
theorem dX3_stepBack_25 : decode mX3_stepBack.2.1 25 = .ok (.getfield 15, 3) := by decide +kernel
theorem dX3_stepBack_28 : decode mX3_stepBack.2.1 28 = .ok (.invokevirtual 32, 3) := by decide +kernel
theorem dX3_stepBack_31 : decode mX3_stepBack.2.1 31 = .ok (.iconst 1, 1) := by decide +kernel
theorem dX3_stepBack_32 : decode mX3_stepBack.2.1 32 = .ok (.ireturn, 1) := by decide +kernel
theorem bX3_stepBack_0 {E : px_E} {d : Nat} {w : pw_W} {Q : Option Value → pw_W → Prop} {t : ct_T} (hw : w.1 = cs t) {r1 : Nat} (hr1 : is_State r1) 
    (k1 : ¬ (pw_I w 38 1) = 0 → px_Call E d 0 0 mX8_readFrom [.ref r1, .ref 39, .int ((pw_I w 38 1) - 1)] (pw_sI w 38 1 ((pw_I w 38 1) - 1)) (fun v w' => px_W E mX3_stepBack (d + 1) 0 0 31 [.null, .null] (v.toList ++ []) w' Q))
    (k2 : (pw_I w 38 1) = 0 → Q (some (.int 0)) w) :
    px_W E mX3_stepBack (d + 1) 0 0 0 [.ref 38, .ref r1] [] w Q := by
  refine px_aload_n dX3_stepBack_0 rfl rfl ?_
  refine px_getI dX3_stepBack_1 fr_3_15 rfl (px_sh1 hw sh_38) ?_
  refine px_if_ne (tgt := 9) dX3_stepBack_4 (by decide) (fun h1 => ?_) (fun h1 => ?_)
  ·
    refine px_aload_n dX3_stepBack_9 rfl rfl ?_
    refine px_dup dX3_stepBack_10 rfl ?_
    refine px_getI dX3_stepBack_11 fr_3_15 rfl (px_sh1 hw sh_38) ?_
    refine px_iconst dX3_stepBack_14 ic_1 ?_
    refine px_isub dX3_stepBack_15 ?_
    refine px_putI dX3_stepBack_16 fl_3_15 (Or.inl rfl) rfl (px_sh1 hw sh_38) rfl rfl (by omega) ?_
    refine px_aload_n dX3_stepBack_19 rfl rfl ?_
    refine px_aload_n dX3_stepBack_20 rfl rfl ?_
    refine px_getR (v := 39) dX3_stepBack_21 fr_3_11 rfl (px_sh1 (hI hw) sh_38) (px_rf (hI hw) rf_38_0) (by decide) ?_
    refine px_aload_n dX3_stepBack_24 rfl rfl ?_
    refine px_getIv (v := ((pw_I w 38 1) - 1)) dX3_stepBack_25 fr_3_15 rfl (px_sh1 (hI hw) sh_38) rfl ?_
    refine px_forget (ls' := [.null, .null]) ?_ ⟨Or.inl rfl, Or.inl rfl, trivial⟩
    exact px_callV (As := [.ref 39, .int ((pw_I w 38 1) - 1)]) (st := []) (rc := 0) (rs := 0) (mc := 0) (ms := 0) dX3_stepBack_28 lk_3_32 (px_sh1 (hI hw) hr1.sh) rfl rfl (Nat.le_of_ble_eq_true rfl) (k1 h1)
  ·
    refine px_iconst dX3_stepBack_7 ic_0 ?_
    exact px_ireturn dX3_stepBack_8 rfl (by decide) (k2 h1)
theorem eX3_stepBack {E : px_E} {d : Nat} {w : pw_W} {Q : Option Value → pw_W → Prop} {t : ct_T} (hw : w.1 = cs t) {r1 : Nat} (hr1 : is_State r1) 
    (k1 : ¬ (pw_I w 38 1) = 0 → px_Call E d 0 0 mX8_readFrom [.ref r1, .ref 39, .int ((pw_I w 38 1) - 1)] (pw_sI w 38 1 ((pw_I w 38 1) - 1)) (fun v w' => px_W E mX3_stepBack (d + 1) 0 0 31 [.null, .null] (v.toList ++ []) w' Q))
    (k2 : (pw_I w 38 1) = 0 → Q (some (.int 0)) w) :
    px_Call E (d + 1) 0 0 mX3_stepBack [.ref 38, .ref r1] w Q :=
  px_enter (k := 0) (by decide) (Nat.le_of_ble_eq_true rfl) rfl (px_forget (bX3_stepBack_0 hw hr1 k1 k2) ⟨Or.inr rfl, Or.inr rfl, trivial⟩)
theorem bX3_stepBack_31 {E : px_E} {d : Nat} {w : pw_W} {Q : Option Value → pw_W → Prop} {t : ct_T} (hw : w.1 = cs t) {r1 : Nat} (hr1 : is_State r1) 
    (k1 : Q (some (.int 1)) w) :
    px_W E mX3_stepBack (d + 1) 0 0 31 [.null, .null] [] w Q := by
  refine px_iconst dX3_stepBack_31 ic_1 ?_
  exact px_ireturn dX3_stepBack_32 rfl (by decide) k1
theorem dX3_stepOn_0 : decode mX3_stepOn.2.1 0 = .ok (.aload_n 0, 1) := by decide +kernel
theorem dX3_stepOn_1 : decode mX3_stepOn.2.1 1 = .ok (.getfield 15, 3) := by decide +kernel
theorem dX3_stepOn_4 : decode mX3_stepOn.2.1 4 = .ok (.aload_n 0, 1) := by decide +kernel
theorem dX3_stepOn_5 : decode mX3_stepOn.2.1 5 = .ok (.getfield 19, 3) := by decide +kernel
theorem dX3_stepOn_8 : decode mX3_stepOn.2.1 8 = .ok (.if_icmp .lt 5, 3) := by decide +kernel
theorem dX3_stepOn_11 : decode mX3_stepOn.2.1 11 = .ok (.iconst 0, 1) := by decide +kernel
theorem dX3_stepOn_12 : decode mX3_stepOn.2.1 12 = .ok (.ireturn, 1) := by decide +kernel
theorem dX3_stepOn_13 : decode mX3_stepOn.2.1 13 = .ok (.aload_n 0, 1) := by decide +kernel
theorem dX3_stepOn_14 : decode mX3_stepOn.2.1 14 = .ok (.dup, 1) := by decide +kernel
theorem dX3_stepOn_15 : decode mX3_stepOn.2.1 15 = .ok (.getfield 15, 3) := by decide +kernel
theorem dX3_stepOn_18 : decode mX3_stepOn.2.1 18 = .ok (.iconst 1, 1) := by decide +kernel
theorem dX3_stepOn_19 : decode mX3_stepOn.2.1 19 = .ok (.iadd, 1) := by decide +kernel
theorem dX3_stepOn_20 : decode mX3_stepOn.2.1 20 = .ok (.putfield 15, 3) := by decide +kernel
theorem dX3_stepOn_23 : decode mX3_stepOn.2.1 23 = .ok (.aload_n 1, 1) := by decide +kernel
theorem dX3_stepOn_24 : decode mX3_stepOn.2.1 24 = .ok (.aload_n 0, 1) := by decide +kernel
theorem dX3_stepOn_25 : decode mX3_stepOn.2.1 25 = .ok (.getfield 11, 3) := by decide +kernel
theorem dX3_stepOn_28 : decode mX3_stepOn.2.1 28 = .ok (.aload_n 0, 1) := by decide +kernel
theorem dX3_stepOn_29 : decode mX3_stepOn.2.1 29 = .ok (.getfield 15, 3) := by decide +kernel
theorem dX3_stepOn_32 : decode mX3_stepOn.2.1 32 = .ok (.invokevirtual 32, 3) := by decide +kernel
theorem dX3_stepOn_35 : decode mX3_stepOn.2.1 35 = .ok (.iconst 1, 1) := by decide +kernel
theorem dX3_stepOn_36 : decode mX3_stepOn.2.1 36 = .ok (.ireturn, 1) := by decide +kernel
theorem bX3_stepOn_0 {E : px_E} {d : Nat} {w : pw_W} {Q : Option Value → pw_W → Prop} {t : ct_T} (hw : w.1 = cs t) {r1 : Nat} (hr1 : is_State r1) 
    (k1 : (pw_I w 38 1) < (pw_I w 38 2) → px_Call E d 0 0 mX8_readFrom [.ref r1, .ref 39, .int ((pw_I w 38 1) + 1)] (pw_sI w 38 1 ((pw_I w 38 1) + 1)) (fun v w' => px_W E mX3_stepOn (d + 1) 0 0 35 [.null, .null] (v.toList ++ []) w' Q))
    (k2 : ¬ (pw_I w 38 1) < (pw_I w 38 2) → Q (some (.int 0)) w) :
    px_W E mX3_stepOn (d + 1) 0 0 0 [.ref 38, .ref r1] [] w Q := by
  refine px_aload_n dX3_stepOn_0 rfl rfl ?_
  refine px_getI dX3_stepOn_1 fr_3_15 rfl (px_sh1 hw sh_38) ?_
  refine px_aload_n dX3_stepOn_4 rfl rfl ?_
  refine px_getI dX3_stepOn_5 fr_3_19 rfl (px_sh1 hw sh_38) ?_
  refine px_icmp_lt (tgt := 13) dX3_stepOn_8 (by decide) (fun h1 => ?_) (fun h1 => ?_)
  ·
    refine px_aload_n dX3_stepOn_13 rfl rfl ?_
    refine px_dup dX3_stepOn_14 rfl ?_
    refine px_getI dX3_stepOn_15 fr_3_15 rfl (px_sh1 hw sh_38) ?_
    refine px_iconst dX3_stepOn_18 ic_1 ?_
    refine px_iadd dX3_stepOn_19 ?_
    refine px_putI dX3_stepOn_20 fl_3_15 (Or.inl rfl) rfl (px_sh1 hw sh_38) rfl rfl (by omega) ?_
    refine px_aload_n dX3_stepOn_23 rfl rfl ?_
    refine px_aload_n dX3_stepOn_24 rfl rfl ?_
    refine px_getR (v := 39) dX3_stepOn_25 fr_3_11 rfl (px_sh1 (hI hw) sh_38) (px_rf (hI hw) rf_38_0) (by decide) ?_
    refine px_aload_n dX3_stepOn_28 rfl rfl ?_
    refine px_getIv (v := ((pw_I w 38 1) + 1)) dX3_stepOn_29 fr_3_15 rfl (px_sh1 (hI hw) sh_38) rfl ?_
    refine px_forget (ls' := [.null, .null]) ?_ ⟨Or.inl rfl, Or.inl rfl, trivial⟩
    exact px_callV (As := [.ref 39, .int ((pw_I w 38 1) + 1)]) (st := []) (rc := 0) (rs := 0) (mc := 0) (ms := 0) dX3_stepOn_32 lk_3_32 (px_sh1 (hI hw) hr1.sh) rfl rfl (Nat.le_of_ble_eq_true rfl) (k1 h1)
  ·
    refine px_iconst dX3_stepOn_11 ic_0 ?_
    exact px_ireturn dX3_stepOn_12 rfl (by decide) (k2 h1)
theorem eX3_stepOn {E : px_E} {d : Nat} {w : pw_W} {Q : Option Value → pw_W → Prop} {t : ct_T} (hw : w.1 = cs t) {r1 : Nat} (hr1 : is_State r1) 
    (k1 : (pw_I w 38 1) < (pw_I w 38 2) → px_Call E d 0 0 mX8_readFrom [.ref r1, .ref 39, .int ((pw_I w 38 1) + 1)] (pw_sI w 38 1 ((pw_I w 38 1) + 1)) (fun v w' => px_W E mX3_stepOn (d + 1) 0 0 35 [.null, .null] (v.toList ++ []) w' Q))
    (k2 : ¬ (pw_I w 38 1) < (pw_I w 38 2) → Q (some (.int 0)) w) :
    px_Call E (d + 1) 0 0 mX3_stepOn [.ref 38, .ref r1] w Q :=
  px_enter (k := 0) (by decide) (Nat.le_of_ble_eq_true rfl) rfl (px_forget (bX3_stepOn_0 hw hr1 k1 k2) ⟨Or.inr rfl, Or.inr rfl, trivial⟩)
theorem bX3_stepOn_35 {E : px_E} {d : Nat} {w : pw_W} {Q : Option Value → pw_W → Prop} {t : ct_T} (hw : w.1 = cs t) {r1 : Nat} (hr1 : is_State r1) 
    (k1 : Q (some (.int 1)) w) :
    px_W E mX3_stepOn (d + 1) 0 0 35 [.null, .null] [] w Q := by
  refine px_iconst dX3_stepOn_35 ic_1 ?_
  exact px_ireturn dX3_stepOn_36 rfl (by decide) k1
theorem dX8_setAsTold_0 : decode mX8_setAsTold.2.1 0 = .ok (.aload_n 1, 1) := by decide +kernel
theorem dX8_setAsTold_1 : decode mX8_setAsTold.2.1 1 = .ok (.getfield 18, 3) := by decide +kernel
theorem dX8_setAsTold_4 : decode mX8_setAsTold.2.1 4 = .ok (.iconst 0, 1) := by decide +kernel
theorem dX8_setAsTold_5 : decode mX8_setAsTold.2.1 5 = .ok (.aload_n 0, 1) := by decide +kernel
theorem dX8_setAsTold_6 : decode mX8_setAsTold.2.1 6 = .ok (.getfield 9, 3) := by decide +kernel
theorem dX8_setAsTold_9 : decode mX8_setAsTold.2.1 9 = .ok (.iconst 0, 1) := by decide +kernel
theorem dX8_setAsTold_10 : decode mX8_setAsTold.2.1 10 = .ok (.bipush 6, 2) := by decide +kernel
theorem dX8_setAsTold_12 : decode mX8_setAsTold.2.1 12 = .ok (.invokestatic 21, 3) := by decide +kernel
theorem dX8_setAsTold_15 : decode mX8_setAsTold.2.1 15 = .ok (.aload_n 1, 1) := by decide +kernel
theorem dX8_setAsTold_16 : decode mX8_setAsTold.2.1 16 = .ok (.getfield 27, 3) := by decide +kernel
theorem dX8_setAsTold_19 : decode mX8_setAsTold.2.1 19 = .ok (.iconst 0, 1) := by decide +kernel
theorem dX8_setAsTold_20 : decode mX8_setAsTold.2.1 20 = .ok (.aload_n 0, 1) := by decide +kernel
theorem dX8_setAsTold_21 : decode mX8_setAsTold.2.1 21 = .ok (.getfield 15, 3) := by decide +kernel
theorem dX8_setAsTold_24 : decode mX8_setAsTold.2.1 24 = .ok (.iconst 0, 1) := by decide +kernel
theorem dX8_setAsTold_25 : decode mX8_setAsTold.2.1 25 = .ok (.bipush 6, 2) := by decide +kernel
theorem dX8_setAsTold_27 : decode mX8_setAsTold.2.1 27 = .ok (.invokestatic 21, 3) := by decide +kernel
theorem dX8_setAsTold_30 : decode mX8_setAsTold.2.1 30 = .ok (.aload_n 0, 1) := by decide +kernel
theorem dX8_setAsTold_31 : decode mX8_setAsTold.2.1 31 = .ok (.iconst 0, 1) := by decide +kernel
theorem dX8_setAsTold_32 : decode mX8_setAsTold.2.1 32 = .ok (.putfield 28, 3) := by decide +kernel
theorem dX8_setAsTold_35 : decode mX8_setAsTold.2.1 35 = .ok (.aload_n 0, 1) := by decide +kernel
theorem dX8_setAsTold_36 : decode mX8_setAsTold.2.1 36 = .ok (.iconst 0, 1) := by decide +kernel
theorem dX8_setAsTold_37 : decode mX8_setAsTold.2.1 37 = .ok (.putfield 32, 3) := by decide +kernel
theorem dX8_setAsTold_40 : decode mX8_setAsTold.2.1 40 = .ok (.aload_n 0, 1) := by decide +kernel
theorem dX8_setAsTold_41 : decode mX8_setAsTold.2.1 41 = .ok (.aload_n 1, 1) := by decide +kernel
theorem dX8_setAsTold_42 : decode mX8_setAsTold.2.1 42 = .ok (.getfield 35, 3) := by decide +kernel
theorem dX8_setAsTold_45 : decode mX8_setAsTold.2.1 45 = .ok (.putfield 38, 3) := by decide +kernel
theorem dX8_setAsTold_48 : decode mX8_setAsTold.2.1 48 = .ok (.return_, 1) := by decide +kernel
theorem bX8_setAsTold_0 {E : px_E} {d : Nat} {w : pw_W} {Q : Option Value → pw_W → Prop} {t : ct_T} (hw : w.1 = cs t) {r0 : Nat} (hr0 : is_State r0) {r1 : Nat} (hr1 : is_Hamlet r1) 
    (k1 : px_W E mX8_setAsTold (d + 1) 0 0 30 [.ref r0, .ref r1] [] (pw_sA (pw_sA w (r0 + 1) (va_cpy (pw_I w (r1 + 3)) (pw_I w (r0 + 1)) 0 0 6)) (r0 + 2) (va_cpy (pw_I (pw_sA w (r0 + 1) (va_cpy (pw_I w (r1 + 3)) (pw_I w (r0 + 1)) 0 0 6)) (r1 + 1)) (pw_I (pw_sA w (r0 + 1) (va_cpy (pw_I w (r1 + 3)) (pw_I w (r0 + 1)) 0 0 6)) (r0 + 2)) 0 0 6)) Q) :
    px_W E mX8_setAsTold (d + 1) 0 0 0 [.ref r0, .ref r1] [] w Q := by
  refine px_aload_n dX8_setAsTold_0 rfl rfl ?_
  refine px_getR (v := (r1 + 3)) dX8_setAsTold_1 fr_8_18 rfl (px_sh1 hw hr1.sh) (px_rf hw hr1.rf3) (Nat.succ_ne_zero _) ?_
  refine px_iconst dX8_setAsTold_4 ic_0 ?_
  refine px_aload_n dX8_setAsTold_5 rfl rfl ?_
  refine px_getR (v := (r0 + 1)) dX8_setAsTold_6 fr_8_9 rfl (px_sh1 hw hr0.sh) (px_rf hw hr0.rf0) (Nat.succ_ne_zero _) ?_
  refine px_iconst dX8_setAsTold_9 ic_0 ?_
  refine px_bipush dX8_setAsTold_10 bp_6 ?_
  refine px_copy dX8_setAsTold_12 (px_in3 194 rfl rfl) (px_sh2 hw hr1.sh3) (px_sh2 hw hr0.sh1) (by decide) (by decide) 0 0 6 rfl rfl rfl (by decide) (by decide) (Nat.le_of_ble_eq_true rfl) (by omega) ?_
  refine px_aload_n dX8_setAsTold_15 rfl rfl ?_
  refine px_getR (v := (r1 + 1)) dX8_setAsTold_16 fr_8_27 rfl (px_sh1 (hA hw) hr1.sh) (px_rf (hA hw) hr1.rf1) (Nat.succ_ne_zero _) ?_
  refine px_iconst dX8_setAsTold_19 ic_0 ?_
  refine px_aload_n dX8_setAsTold_20 rfl rfl ?_
  refine px_getR (v := (r0 + 2)) dX8_setAsTold_21 fr_8_15 rfl (px_sh1 (hA hw) hr0.sh) (px_rf (hA hw) hr0.rf1) (Nat.succ_ne_zero _) ?_
  refine px_iconst dX8_setAsTold_24 ic_0 ?_
  refine px_bipush dX8_setAsTold_25 bp_6 ?_
  refine px_copy dX8_setAsTold_27 (px_in3 194 rfl rfl) (px_sh2 (hA hw) hr1.sh1) (px_sh2 (hA hw) hr0.sh2) (by decide) (by decide) 0 0 6 rfl rfl rfl (by decide) (by decide) (Nat.le_of_ble_eq_true rfl) (by omega) ?_
  exact k1
theorem eX8_setAsTold {E : px_E} {d : Nat} {w : pw_W} {Q : Option Value → pw_W → Prop} {t : ct_T} (hw : w.1 = cs t) {r0 : Nat} (hr0 : is_State r0) {r1 : Nat} (hr1 : is_Hamlet r1) 
    (k1 : px_W E mX8_setAsTold (d + 1) 0 0 30 [.ref r0, .ref r1] [] (pw_sA (pw_sA w (r0 + 1) (va_cpy (pw_I w (r1 + 3)) (pw_I w (r0 + 1)) 0 0 6)) (r0 + 2) (va_cpy (pw_I (pw_sA w (r0 + 1) (va_cpy (pw_I w (r1 + 3)) (pw_I w (r0 + 1)) 0 0 6)) (r1 + 1)) (pw_I (pw_sA w (r0 + 1) (va_cpy (pw_I w (r1 + 3)) (pw_I w (r0 + 1)) 0 0 6)) (r0 + 2)) 0 0 6)) Q) :
    px_Call E (d + 1) 0 0 mX8_setAsTold [.ref r0, .ref r1] w Q :=
  px_enter (k := 0) (by decide) (Nat.le_of_ble_eq_true rfl) rfl (px_forget (bX8_setAsTold_0 hw hr0 hr1 k1) ⟨Or.inr rfl, Or.inr rfl, trivial⟩)
theorem bX8_setAsTold_30 {E : px_E} {d : Nat} {w : pw_W} {Q : Option Value → pw_W → Prop} {t : ct_T} (hw : w.1 = cs t) {r0 : Nat} (hr0 : is_State r0) {r1 : Nat} (hr1 : is_Hamlet r1) 
    (k1 : px_W E mX8_setAsTold (d + 1) 0 0 40 [.ref r0, .ref r1] [] (pw_sI (pw_sI w r0 2 0) r0 3 0) Q) :
    px_W E mX8_setAsTold (d + 1) 0 0 30 [.ref r0, .ref r1] [] w Q := by
  refine px_aload_n dX8_setAsTold_30 rfl rfl ?_
  refine px_iconst dX8_setAsTold_31 ic_0 ?_
  refine px_putI dX8_setAsTold_32 fl_8_28 (Or.inl rfl) rfl (px_sh1 hw hr0.sh) rfl rfl (by omega) ?_
  refine px_aload_n dX8_setAsTold_35 rfl rfl ?_
  refine px_iconst dX8_setAsTold_36 ic_0 ?_
  refine px_putI dX8_setAsTold_37 fl_8_32 (Or.inl rfl) rfl (px_sh1 (hI hw) hr0.sh) rfl rfl (by omega) ?_
  exact k1
theorem bX8_setAsTold_40 {E : px_E} {d : Nat} {w : pw_W} {Q : Option Value → pw_W → Prop} {t : ct_T} (hw : w.1 = cs t) {r0 : Nat} (hr0 : is_State r0) {r1 : Nat} (hr1 : is_Hamlet r1) 
    (k1 : Q none (pw_sI w r0 4 (pw_I w r1 14))) :
    px_W E mX8_setAsTold (d + 1) 0 0 40 [.ref r0, .ref r1] [] w Q := by
  refine px_aload_n dX8_setAsTold_40 rfl rfl ?_
  refine px_aload_n dX8_setAsTold_41 rfl rfl ?_
  refine px_getI dX8_setAsTold_42 fr_8_35 rfl (px_sh1 hw hr1.sh) ?_
  refine px_putI dX8_setAsTold_45 fl_8_38 (Or.inl rfl) rfl (px_sh1 hw hr0.sh) rfl rfl (by omega) ?_
  exact px_return dX8_setAsTold_48 rfl k1
theorem dX8_copyFrom_0 : decode mX8_copyFrom.2.1 0 = .ok (.aload_n 1, 1) := by decide +kernel
theorem dX8_copyFrom_1 : decode mX8_copyFrom.2.1 1 = .ok (.getfield 9, 3) := by decide +kernel
theorem dX8_copyFrom_4 : decode mX8_copyFrom.2.1 4 = .ok (.iconst 0, 1) := by decide +kernel
theorem dX8_copyFrom_5 : decode mX8_copyFrom.2.1 5 = .ok (.aload_n 0, 1) := by decide +kernel
theorem dX8_copyFrom_6 : decode mX8_copyFrom.2.1 6 = .ok (.getfield 9, 3) := by decide +kernel
theorem dX8_copyFrom_9 : decode mX8_copyFrom.2.1 9 = .ok (.iconst 0, 1) := by decide +kernel
theorem dX8_copyFrom_10 : decode mX8_copyFrom.2.1 10 = .ok (.bipush 6, 2) := by decide +kernel
theorem dX8_copyFrom_12 : decode mX8_copyFrom.2.1 12 = .ok (.invokestatic 21, 3) := by decide +kernel
theorem dX8_copyFrom_15 : decode mX8_copyFrom.2.1 15 = .ok (.aload_n 1, 1) := by decide +kernel
theorem dX8_copyFrom_16 : decode mX8_copyFrom.2.1 16 = .ok (.getfield 15, 3) := by decide +kernel
theorem dX8_copyFrom_19 : decode mX8_copyFrom.2.1 19 = .ok (.iconst 0, 1) := by decide +kernel
theorem dX8_copyFrom_20 : decode mX8_copyFrom.2.1 20 = .ok (.aload_n 0, 1) := by decide +kernel
theorem dX8_copyFrom_21 : decode mX8_copyFrom.2.1 21 = .ok (.getfield 15, 3) := by decide +kernel
theorem dX8_copyFrom_24 : decode mX8_copyFrom.2.1 24 = .ok (.iconst 0, 1) := by decide +kernel
theorem dX8_copyFrom_25 : decode mX8_copyFrom.2.1 25 = .ok (.bipush 6, 2) := by decide +kernel
theorem dX8_copyFrom_27 : decode mX8_copyFrom.2.1 27 = .ok (.invokestatic 21, 3) := by decide +kernel
theorem dX8_copyFrom_30 : decode mX8_copyFrom.2.1 30 = .ok (.aload_n 0, 1) := by decide +kernel
theorem dX8_copyFrom_31 : decode mX8_copyFrom.2.1 31 = .ok (.aload_n 1, 1) := by decide +kernel
theorem dX8_copyFrom_32 : decode mX8_copyFrom.2.1 32 = .ok (.getfield 28, 3) := by decide +kernel
theorem dX8_copyFrom_35 : decode mX8_copyFrom.2.1 35 = .ok (.putfield 28, 3) := by decide +kernel
theorem dX8_copyFrom_38 : decode mX8_copyFrom.2.1 38 = .ok (.aload_n 0, 1) := by decide +kernel
theorem dX8_copyFrom_39 : decode mX8_copyFrom.2.1 39 = .ok (.aload_n 1, 1) := by decide +kernel
theorem dX8_copyFrom_40 : decode mX8_copyFrom.2.1 40 = .ok (.getfield 32, 3) := by decide +kernel
theorem dX8_copyFrom_43 : decode mX8_copyFrom.2.1 43 = .ok (.putfield 32, 3) := by decide +kernel
theorem dX8_copyFrom_46 : decode mX8_copyFrom.2.1 46 = .ok (.aload_n 0, 1) := by decide +kernel
theorem dX8_copyFrom_47 : decode mX8_copyFrom.2.1 47 = .ok (.aload_n 1, 1) := by decide +kernel
theorem dX8_copyFrom_48 : decode mX8_copyFrom.2.1 48 = .ok (.getfield 38, 3) := by decide +kernel
theorem dX8_copyFrom_51 : decode mX8_copyFrom.2.1 51 = .ok (.putfield 38, 3) := by decide +kernel
theorem dX8_copyFrom_54 : decode mX8_copyFrom.2.1 54 = .ok (.return_, 1) := by decide +kernel
theorem bX8_copyFrom_0 {E : px_E} {d : Nat} {w : pw_W} {Q : Option Value → pw_W → Prop} {t : ct_T} (hw : w.1 = cs t) {r0 : Nat} (hr0 : is_State r0) {r1 : Nat} (hr1 : is_State r1) 
    (k1 : px_W E mX8_copyFrom (d + 1) 0 0 30 [.ref r0, .ref r1] [] (pw_sA (pw_sA w (r0 + 1) (va_cpy (pw_I w (r1 + 1)) (pw_I w (r0 + 1)) 0 0 6)) (r0 + 2) (va_cpy (pw_I (pw_sA w (r0 + 1) (va_cpy (pw_I w (r1 + 1)) (pw_I w (r0 + 1)) 0 0 6)) (r1 + 2)) (pw_I (pw_sA w (r0 + 1) (va_cpy (pw_I w (r1 + 1)) (pw_I w (r0 + 1)) 0 0 6)) (r0 + 2)) 0 0 6)) Q) :
    px_W E mX8_copyFrom (d + 1) 0 0 0 [.ref r0, .ref r1] [] w Q := by
  refine px_aload_n dX8_copyFrom_0 rfl rfl ?_
  refine px_getR (v := (r1 + 1)) dX8_copyFrom_1 fr_8_9 rfl (px_sh1 hw hr1.sh) (px_rf hw hr1.rf0) (Nat.succ_ne_zero _) ?_
  refine px_iconst dX8_copyFrom_4 ic_0 ?_
  refine px_aload_n dX8_copyFrom_5 rfl rfl ?_
  refine px_getR (v := (r0 + 1)) dX8_copyFrom_6 fr_8_9 rfl (px_sh1 hw hr0.sh) (px_rf hw hr0.rf0) (Nat.succ_ne_zero _) ?_
  refine px_iconst dX8_copyFrom_9 ic_0 ?_
  refine px_bipush dX8_copyFrom_10 bp_6 ?_
  refine px_copy dX8_copyFrom_12 (px_in3 194 rfl rfl) (px_sh2 hw hr1.sh1) (px_sh2 hw hr0.sh1) (by decide) (by decide) 0 0 6 rfl rfl rfl (by decide) (by decide) (Nat.le_of_ble_eq_true rfl) (by omega) ?_
  refine px_aload_n dX8_copyFrom_15 rfl rfl ?_
  refine px_getR (v := (r1 + 2)) dX8_copyFrom_16 fr_8_15 rfl (px_sh1 (hA hw) hr1.sh) (px_rf (hA hw) hr1.rf1) (Nat.succ_ne_zero _) ?_
  refine px_iconst dX8_copyFrom_19 ic_0 ?_
  refine px_aload_n dX8_copyFrom_20 rfl rfl ?_
  refine px_getR (v := (r0 + 2)) dX8_copyFrom_21 fr_8_15 rfl (px_sh1 (hA hw) hr0.sh) (px_rf (hA hw) hr0.rf1) (Nat.succ_ne_zero _) ?_
  refine px_iconst dX8_copyFrom_24 ic_0 ?_
  refine px_bipush dX8_copyFrom_25 bp_6 ?_
  refine px_copy dX8_copyFrom_27 (px_in3 194 rfl rfl) (px_sh2 (hA hw) hr1.sh2) (px_sh2 (hA hw) hr0.sh2) (by decide) (by decide) 0 0 6 rfl rfl rfl (by decide) (by decide) (Nat.le_of_ble_eq_true rfl) (by omega) ?_
  exact k1
theorem eX8_copyFrom {E : px_E} {d : Nat} {w : pw_W} {Q : Option Value → pw_W → Prop} {t : ct_T} (hw : w.1 = cs t) {r0 : Nat} (hr0 : is_State r0) {r1 : Nat} (hr1 : is_State r1) 
    (k1 : px_W E mX8_copyFrom (d + 1) 0 0 30 [.ref r0, .ref r1] [] (pw_sA (pw_sA w (r0 + 1) (va_cpy (pw_I w (r1 + 1)) (pw_I w (r0 + 1)) 0 0 6)) (r0 + 2) (va_cpy (pw_I (pw_sA w (r0 + 1) (va_cpy (pw_I w (r1 + 1)) (pw_I w (r0 + 1)) 0 0 6)) (r1 + 2)) (pw_I (pw_sA w (r0 + 1) (va_cpy (pw_I w (r1 + 1)) (pw_I w (r0 + 1)) 0 0 6)) (r0 + 2)) 0 0 6)) Q) :
    px_Call E (d + 1) 0 0 mX8_copyFrom [.ref r0, .ref r1] w Q :=
  px_enter (k := 0) (by decide) (Nat.le_of_ble_eq_true rfl) rfl (px_forget (bX8_copyFrom_0 hw hr0 hr1 k1) ⟨Or.inr rfl, Or.inr rfl, trivial⟩)
theorem bX8_copyFrom_30 {E : px_E} {d : Nat} {w : pw_W} {Q : Option Value → pw_W → Prop} {t : ct_T} (hw : w.1 = cs t) {r0 : Nat} (hr0 : is_State r0) {r1 : Nat} (hr1 : is_State r1) 
    (k1 : px_W E mX8_copyFrom (d + 1) 0 0 46 [.ref r0, .ref r1] [] (pw_sI (pw_sI w r0 2 (pw_I w r1 2)) r0 3 (pw_I (pw_sI w r0 2 (pw_I w r1 2)) r1 3)) Q) :
    px_W E mX8_copyFrom (d + 1) 0 0 30 [.ref r0, .ref r1] [] w Q := by
  refine px_aload_n dX8_copyFrom_30 rfl rfl ?_
  refine px_aload_n dX8_copyFrom_31 rfl rfl ?_
  refine px_getI dX8_copyFrom_32 fr_8_28 rfl (px_sh1 hw hr1.sh) ?_
  refine px_putI dX8_copyFrom_35 fl_8_28 (Or.inl rfl) rfl (px_sh1 hw hr0.sh) rfl rfl (by omega) ?_
  refine px_aload_n dX8_copyFrom_38 rfl rfl ?_
  refine px_aload_n dX8_copyFrom_39 rfl rfl ?_
  refine px_getI dX8_copyFrom_40 fr_8_32 rfl (px_sh1 (hI hw) hr1.sh) ?_
  refine px_putI dX8_copyFrom_43 fl_8_32 (Or.inl rfl) rfl (px_sh1 (hI hw) hr0.sh) rfl rfl (by omega) ?_
  exact k1
theorem bX8_copyFrom_46 {E : px_E} {d : Nat} {w : pw_W} {Q : Option Value → pw_W → Prop} {t : ct_T} (hw : w.1 = cs t) {r0 : Nat} (hr0 : is_State r0) {r1 : Nat} (hr1 : is_State r1) 
    (k1 : Q none (pw_sI w r0 4 (pw_I w r1 4))) :
    px_W E mX8_copyFrom (d + 1) 0 0 46 [.ref r0, .ref r1] [] w Q := by
  refine px_aload_n dX8_copyFrom_46 rfl rfl ?_
  refine px_aload_n dX8_copyFrom_47 rfl rfl ?_
  refine px_getI dX8_copyFrom_48 fr_8_38 rfl (px_sh1 hw hr1.sh) ?_
  refine px_putI dX8_copyFrom_51 fl_8_38 (Or.inl rfl) rfl (px_sh1 hw hr0.sh) rfl rfl (by omega) ?_
  exact px_return dX8_copyFrom_54 rfl k1
theorem dX8_writeTo_0 : decode mX8_writeTo.2.1 0 = .ok (.iload_n 2, 1) := by decide +kernel
theorem dX8_writeTo_1 : decode mX8_writeTo.2.1 1 = .ok (.bipush 15, 2) := by decide +kernel
theorem dX8_writeTo_3 : decode mX8_writeTo.2.1 3 = .ok (.imul, 1) := by decide +kernel
theorem dX8_writeTo_4 : decode mX8_writeTo.2.1 4 = .ok (.istore_n 3, 1) := by decide +kernel
theorem dX8_writeTo_5 : decode mX8_writeTo.2.1 5 = .ok (.iload_n 3, 1) := by decide +kernel
theorem dX8_writeTo_6 : decode mX8_writeTo.2.1 6 = .ok (.ifCond .lt 12, 3) := by decide +kernel
theorem dX8_writeTo_9 : decode mX8_writeTo.2.1 9 = .ok (.iload_n 3, 1) := by decide +kernel
theorem dX8_writeTo_10 : decode mX8_writeTo.2.1 10 = .ok (.bipush 15, 2) := by decide +kernel
theorem dX8_writeTo_12 : decode mX8_writeTo.2.1 12 = .ok (.iadd, 1) := by decide +kernel
theorem dX8_writeTo_13 : decode mX8_writeTo.2.1 13 = .ok (.aload_n 1, 1) := by decide +kernel
theorem dX8_writeTo_14 : decode mX8_writeTo.2.1 14 = .ok (.arraylength, 1) := by decide +kernel
theorem dX8_writeTo_15 : decode mX8_writeTo.2.1 15 = .ok (.if_icmp .le 4, 3) := by decide +kernel
theorem dX8_writeTo_18 : decode mX8_writeTo.2.1 18 = .ok (.return_, 1) := by decide +kernel
theorem dX8_writeTo_19 : decode mX8_writeTo.2.1 19 = .ok (.aload_n 0, 1) := by decide +kernel
theorem dX8_writeTo_20 : decode mX8_writeTo.2.1 20 = .ok (.getfield 9, 3) := by decide +kernel
theorem dX8_writeTo_23 : decode mX8_writeTo.2.1 23 = .ok (.iconst 0, 1) := by decide +kernel
theorem dX8_writeTo_24 : decode mX8_writeTo.2.1 24 = .ok (.aload_n 1, 1) := by decide +kernel
theorem dX8_writeTo_25 : decode mX8_writeTo.2.1 25 = .ok (.iload_n 3, 1) := by decide +kernel
theorem dX8_writeTo_26 : decode mX8_writeTo.2.1 26 = .ok (.bipush 6, 2) := by decide +kernel
theorem dX8_writeTo_28 : decode mX8_writeTo.2.1 28 = .ok (.invokestatic 21, 3) := by decide +kernel
theorem dX8_writeTo_31 : decode mX8_writeTo.2.1 31 = .ok (.aload_n 0, 1) := by decide +kernel
theorem dX8_writeTo_32 : decode mX8_writeTo.2.1 32 = .ok (.getfield 15, 3) := by decide +kernel
theorem dX8_writeTo_35 : decode mX8_writeTo.2.1 35 = .ok (.iconst 0, 1) := by decide +kernel
theorem dX8_writeTo_36 : decode mX8_writeTo.2.1 36 = .ok (.aload_n 1, 1) := by decide +kernel
theorem dX8_writeTo_37 : decode mX8_writeTo.2.1 37 = .ok (.iload_n 3, 1) := by decide +kernel
theorem dX8_writeTo_38 : decode mX8_writeTo.2.1 38 = .ok (.bipush 6, 2) := by decide +kernel
theorem dX8_writeTo_40 : decode mX8_writeTo.2.1 40 = .ok (.iadd, 1) := by decide +kernel
theorem dX8_writeTo_41 : decode mX8_writeTo.2.1 41 = .ok (.bipush 6, 2) := by decide +kernel
theorem dX8_writeTo_43 : decode mX8_writeTo.2.1 43 = .ok (.invokestatic 21, 3) := by decide +kernel
theorem dX8_writeTo_46 : decode mX8_writeTo.2.1 46 = .ok (.aload_n 1, 1) := by decide +kernel
theorem dX8_writeTo_47 : decode mX8_writeTo.2.1 47 = .ok (.iload_n 3, 1) := by decide +kernel
theorem dX8_writeTo_48 : decode mX8_writeTo.2.1 48 = .ok (.bipush 12, 2) := by decide +kernel
theorem dX8_writeTo_50 : decode mX8_writeTo.2.1 50 = .ok (.iadd, 1) := by decide +kernel
theorem dX8_writeTo_51 : decode mX8_writeTo.2.1 51 = .ok (.aload_n 0, 1) := by decide +kernel
theorem dX8_writeTo_52 : decode mX8_writeTo.2.1 52 = .ok (.getfield 28, 3) := by decide +kernel
theorem dX8_writeTo_55 : decode mX8_writeTo.2.1 55 = .ok (.iastore, 1) := by decide +kernel
theorem dX8_writeTo_56 : decode mX8_writeTo.2.1 56 = .ok (.aload_n 1, 1) := by decide +kernel
theorem dX8_writeTo_57 : decode mX8_writeTo.2.1 57 = .ok (.iload_n 3, 1) := by decide +kernel
theorem dX8_writeTo_58 : decode mX8_writeTo.2.1 58 = .ok (.bipush 12, 2) := by decide +kernel
theorem dX8_writeTo_60 : decode mX8_writeTo.2.1 60 = .ok (.iadd, 1) := by decide +kernel
theorem dX8_writeTo_61 : decode mX8_writeTo.2.1 61 = .ok (.iconst 1, 1) := by decide +kernel
theorem dX8_writeTo_62 : decode mX8_writeTo.2.1 62 = .ok (.iadd, 1) := by decide +kernel
theorem dX8_writeTo_63 : decode mX8_writeTo.2.1 63 = .ok (.aload_n 0, 1) := by decide +kernel
theorem dX8_writeTo_64 : decode mX8_writeTo.2.1 64 = .ok (.getfield 32, 3) := by decide +kernel
theorem dX8_writeTo_67 : decode mX8_writeTo.2.1 67 = .ok (.iastore, 1) := by decide +kernel
theorem dX8_writeTo_68 : decode mX8_writeTo.2.1 68 = .ok (.aload_n 1, 1) := by decide +kernel
theorem dX8_writeTo_69 : decode mX8_writeTo.2.1 69 = .ok (.iload_n 3, 1) := by decide +kernel
theorem dX8_writeTo_70 : decode mX8_writeTo.2.1 70 = .ok (.bipush 12, 2) := by decide +kernel
theorem dX8_writeTo_72 : decode mX8_writeTo.2.1 72 = .ok (.iadd, 1) := by decide +kernel
theorem dX8_writeTo_73 : decode mX8_writeTo.2.1 73 = .ok (.iconst 2, 1) := by decide +kernel
theorem dX8_writeTo_74 : decode mX8_writeTo.2.1 74 = .ok (.iadd, 1) := by decide +kernel
theorem dX8_writeTo_75 : decode mX8_writeTo.2.1 75 = .ok (.aload_n 0, 1) := by decide +kernel
theorem dX8_writeTo_76 : decode mX8_writeTo.2.1 76 = .ok (.getfield 38, 3) := by decide +kernel
theorem dX8_writeTo_79 : decode mX8_writeTo.2.1 79 = .ok (.iastore, 1) := by decide +kernel
theorem dX8_writeTo_80 : decode mX8_writeTo.2.1 80 = .ok (.return_, 1) := by decide +kernel
theorem bX8_writeTo_0 {E : px_E} {d : Nat} {w : pw_W} {Q : Option Value → pw_W → Prop} {t : ct_T} (hw : w.1 = cs t) {x2 : Int32} {r0 : Nat} (hr0 : is_State r0) {r1 n1 : Nat} (hs1 : (cs t).2.1 r1 = (100, n1)) (hn1 : n1 < 2 ^ 31) 
    (k1 : (x2 * 15) < 0 → px_W E mX8_writeTo (d + 1) 0 0 18 [.null, .null, .null, .null] [] w Q)
    (k2 : ¬ (x2 * 15) < 0 → ((x2 * 15) + 15) ≤ (nI n1) → px_W E mX8_writeTo (d + 1) 0 0 19 [.ref r0, .ref r1, .null, .int (x2 * 15)] [] w Q)
    (k3 : ¬ (x2 * 15) < 0 → ¬ ((x2 * 15) + 15) ≤ (nI n1) → px_W E mX8_writeTo (d + 1) 0 0 18 [.null, .null, .null, .null] [] w Q) :
    px_W E mX8_writeTo (d + 1) 0 0 0 [.ref r0, .ref r1, .int x2, .null] [] w Q := by
  refine px_iload_n dX8_writeTo_0 rfl rfl ?_
  refine px_bipush dX8_writeTo_1 bp_15 ?_
  refine px_imul dX8_writeTo_3 ?_
  refine px_istore_n (ls' := [.ref r0, .ref r1, .int x2, .int (x2 * 15)]) dX8_writeTo_4 rfl ⟨by decide, rfl⟩ rfl ?_
  refine px_iload_n dX8_writeTo_5 rfl rfl ?_
  refine px_if_lt (tgt := 18) dX8_writeTo_6 (by decide) (fun h1 => ?_) (fun h1 => ?_)
  ·
    exact px_forget (k1 h1) ⟨Or.inl rfl, Or.inl rfl, Or.inl rfl, Or.inl rfl, trivial⟩
  ·
    refine px_iload_n dX8_writeTo_9 rfl rfl ?_
    refine px_bipush dX8_writeTo_10 bp_15 ?_
    refine px_iadd dX8_writeTo_12 ?_
    refine px_aload_n dX8_writeTo_13 rfl rfl ?_
    refine px_alen dX8_writeTo_14 (px_sh2 hw hs1) (by decide) rfl ?_
    refine px_icmp_le (tgt := 19) dX8_writeTo_15 (by decide) (fun h2 => ?_) (fun h2 => ?_)
    ·
      exact px_forget (k2 h1 h2) ⟨Or.inr rfl, Or.inr rfl, Or.inl rfl, Or.inr rfl, trivial⟩
    ·
      exact px_forget (k3 h1 h2) ⟨Or.inl rfl, Or.inl rfl, Or.inl rfl, Or.inl rfl, trivial⟩
theorem eX8_writeTo {E : px_E} {d : Nat} {w : pw_W} {Q : Option Value → pw_W → Prop} {t : ct_T} (hw : w.1 = cs t) {x2 : Int32} {r0 : Nat} (hr0 : is_State r0) {r1 n1 : Nat} (hs1 : (cs t).2.1 r1 = (100, n1)) (hn1 : n1 < 2 ^ 31) 
    (k1 : (x2 * 15) < 0 → px_W E mX8_writeTo (d + 1) 0 0 18 [.null, .null, .null, .null] [] w Q)
    (k2 : ¬ (x2 * 15) < 0 → ((x2 * 15) + 15) ≤ (nI n1) → px_W E mX8_writeTo (d + 1) 0 0 19 [.ref r0, .ref r1, .null, .int (x2 * 15)] [] w Q)
    (k3 : ¬ (x2 * 15) < 0 → ¬ ((x2 * 15) + 15) ≤ (nI n1) → px_W E mX8_writeTo (d + 1) 0 0 18 [.null, .null, .null, .null] [] w Q) :
    px_Call E (d + 1) 0 0 mX8_writeTo [.ref r0, .ref r1, .int x2] w Q :=
  px_enter (k := 1) (by decide) (Nat.le_of_ble_eq_true rfl) rfl (px_forget (bX8_writeTo_0 hw hr0 hs1 hn1 k1 k2 k3) ⟨Or.inr rfl, Or.inr rfl, Or.inr rfl, Or.inl rfl, trivial⟩)
theorem bX8_writeTo_18 {E : px_E} {d : Nat} {w : pw_W} {Q : Option Value → pw_W → Prop} {t : ct_T} (hw : w.1 = cs t) {r0 : Nat} (hr0 : is_State r0) {r1 n1 : Nat} (hs1 : (cs t).2.1 r1 = (100, n1)) (hn1 : n1 < 2 ^ 31) 
    (k1 : Q none w) :
    px_W E mX8_writeTo (d + 1) 0 0 18 [.null, .null, .null, .null] [] w Q := by
  exact px_return dX8_writeTo_18 rfl k1
theorem bX8_writeTo_19 {E : px_E} {d : Nat} {w : pw_W} {Q : Option Value → pw_W → Prop} {t : ct_T} (hw : w.1 = cs t) {x3 : Int32} {r0 : Nat} (hr0 : is_State r0) {r1 n1 : Nat} (hs1 : (cs t).2.1 r1 = (100, n1)) (hn1 : n1 < 2 ^ 31) (cj1 : Nat) (hcj1 : x3 = nI cj1) (hc2 : cj1 + 6 ≤ n1) (cj3 : Nat) (hcj3 : (x3 + 6) = nI cj3) (hc4 : cj3 + 6 ≤ n1)
    (k1 : px_W E mX8_writeTo (d + 1) 0 0 46 [.ref r0, .ref r1, .null, .int x3] [] (pw_sA (pw_sA w r1 (va_cpy (pw_I w (r0 + 1)) (pw_I w r1) 0 cj1 6)) r1 (va_cpy (pw_I (pw_sA w r1 (va_cpy (pw_I w (r0 + 1)) (pw_I w r1) 0 cj1 6)) (r0 + 2)) (pw_I (pw_sA w r1 (va_cpy (pw_I w (r0 + 1)) (pw_I w r1) 0 cj1 6)) r1) 0 cj3 6)) Q) :
    px_W E mX8_writeTo (d + 1) 0 0 19 [.ref r0, .ref r1, .null, .int x3] [] w Q := by
  refine px_aload_n dX8_writeTo_19 rfl rfl ?_
  refine px_getR (v := (r0 + 1)) dX8_writeTo_20 fr_8_9 rfl (px_sh1 hw hr0.sh) (px_rf hw hr0.rf0) (Nat.succ_ne_zero _) ?_
  refine px_iconst dX8_writeTo_23 ic_0 ?_
  refine px_aload_n dX8_writeTo_24 rfl rfl ?_
  refine px_iload_n dX8_writeTo_25 rfl rfl ?_
  refine px_bipush dX8_writeTo_26 bp_6 ?_
  refine px_copy dX8_writeTo_28 (px_in3 194 rfl rfl) (px_sh2 hw hr0.sh1) (px_sh2 hw hs1) (by decide) hn1 0 cj1 6 rfl hcj1 rfl (by decide) hc2 (Nat.le_of_ble_eq_true rfl) (by omega) ?_
  refine px_aload_n dX8_writeTo_31 rfl rfl ?_
  refine px_getR (v := (r0 + 2)) dX8_writeTo_32 fr_8_15 rfl (px_sh1 (hA hw) hr0.sh) (px_rf (hA hw) hr0.rf1) (Nat.succ_ne_zero _) ?_
  refine px_iconst dX8_writeTo_35 ic_0 ?_
  refine px_aload_n dX8_writeTo_36 rfl rfl ?_
  refine px_iload_n dX8_writeTo_37 rfl rfl ?_
  refine px_bipush dX8_writeTo_38 bp_6 ?_
  refine px_iadd dX8_writeTo_40 ?_
  refine px_bipush dX8_writeTo_41 bp_6 ?_
  refine px_copy dX8_writeTo_43 (px_in3 194 rfl rfl) (px_sh2 (hA hw) hr0.sh2) (px_sh2 (hA hw) hs1) (by decide) hn1 0 cj3 6 rfl hcj3 rfl (by decide) hc4 (Nat.le_of_ble_eq_true rfl) (by omega) ?_
  exact k1
theorem bX8_writeTo_46 {E : px_E} {d : Nat} {w : pw_W} {Q : Option Value → pw_W → Prop} {t : ct_T} (hw : w.1 = cs t) {x3 : Int32} {r0 : Nat} (hr0 : is_State r0) {r1 n1 : Nat} (hs1 : (cs t).2.1 r1 = (100, n1)) (hn1 : n1 < 2 ^ 31) (j1 : Nat) (hj1 : (x3 + 12) = nI j1) (hl1 : j1 < n1) (j2 : Nat) (hj2 : ((x3 + 12) + 1) = nI j2) (hl2 : j2 < n1)
    (k1 : px_W E mX8_writeTo (d + 1) 0 0 68 [.ref r0, .ref r1, .null, .int x3] [] (pw_sI (pw_sI w r1 j1 (pw_I w r0 2)) r1 j2 (pw_I (pw_sI w r1 j1 (pw_I w r0 2)) r0 3)) Q) :
    px_W E mX8_writeTo (d + 1) 0 0 46 [.ref r0, .ref r1, .null, .int x3] [] w Q := by
  refine px_aload_n dX8_writeTo_46 rfl rfl ?_
  refine px_iload_n dX8_writeTo_47 rfl rfl ?_
  refine px_bipush dX8_writeTo_48 bp_12 ?_
  refine px_iadd dX8_writeTo_50 ?_
  refine px_aload_n dX8_writeTo_51 rfl rfl ?_
  refine px_getI dX8_writeTo_52 fr_8_28 rfl (px_sh1 hw hr0.sh) ?_
  refine px_iast dX8_writeTo_55 (px_sh2 hw hs1) hn1 j1 hj1 hl1 (by omega) ?_
  refine px_aload_n dX8_writeTo_56 rfl rfl ?_
  refine px_iload_n dX8_writeTo_57 rfl rfl ?_
  refine px_bipush dX8_writeTo_58 bp_12 ?_
  refine px_iadd dX8_writeTo_60 ?_
  refine px_iconst dX8_writeTo_61 ic_1 ?_
  refine px_iadd dX8_writeTo_62 ?_
  refine px_aload_n dX8_writeTo_63 rfl rfl ?_
  refine px_getI dX8_writeTo_64 fr_8_32 rfl (px_sh1 (hI hw) hr0.sh) ?_
  refine px_iast dX8_writeTo_67 (px_sh2 (hI hw) hs1) hn1 j2 hj2 hl2 (by omega) ?_
  exact k1
theorem bX8_writeTo_68 {E : px_E} {d : Nat} {w : pw_W} {Q : Option Value → pw_W → Prop} {t : ct_T} (hw : w.1 = cs t) {x3 : Int32} {r0 : Nat} (hr0 : is_State r0) {r1 n1 : Nat} (hs1 : (cs t).2.1 r1 = (100, n1)) (hn1 : n1 < 2 ^ 31) (j1 : Nat) (hj1 : ((x3 + 12) + 2) = nI j1) (hl1 : j1 < n1)
    (k1 : Q none (pw_sI w r1 j1 (pw_I w r0 4))) :
    px_W E mX8_writeTo (d + 1) 0 0 68 [.ref r0, .ref r1, .null, .int x3] [] w Q := by
  refine px_aload_n dX8_writeTo_68 rfl rfl ?_
  refine px_iload_n dX8_writeTo_69 rfl rfl ?_
  refine px_bipush dX8_writeTo_70 bp_12 ?_
  refine px_iadd dX8_writeTo_72 ?_
  refine px_iconst dX8_writeTo_73 ic_2 ?_
  refine px_iadd dX8_writeTo_74 ?_
  refine px_aload_n dX8_writeTo_75 rfl rfl ?_
  refine px_getI dX8_writeTo_76 fr_8_38 rfl (px_sh1 hw hr0.sh) ?_
  refine px_iast dX8_writeTo_79 (px_sh2 hw hs1) hn1 j1 hj1 hl1 (by omega) ?_
  exact px_return dX8_writeTo_80 rfl k1
theorem dX8_readFrom_0 : decode mX8_readFrom.2.1 0 = .ok (.iload_n 2, 1) := by decide +kernel
theorem dX8_readFrom_1 : decode mX8_readFrom.2.1 1 = .ok (.bipush 15, 2) := by decide +kernel
theorem dX8_readFrom_3 : decode mX8_readFrom.2.1 3 = .ok (.imul, 1) := by decide +kernel
theorem dX8_readFrom_4 : decode mX8_readFrom.2.1 4 = .ok (.istore_n 3, 1) := by decide +kernel
theorem dX8_readFrom_5 : decode mX8_readFrom.2.1 5 = .ok (.iload_n 3, 1) := by decide +kernel
theorem dX8_readFrom_6 : decode mX8_readFrom.2.1 6 = .ok (.ifCond .lt 12, 3) := by decide +kernel
theorem dX8_readFrom_9 : decode mX8_readFrom.2.1 9 = .ok (.iload_n 3, 1) := by decide +kernel
theorem dX8_readFrom_10 : decode mX8_readFrom.2.1 10 = .ok (.bipush 15, 2) := by decide +kernel
theorem dX8_readFrom_12 : decode mX8_readFrom.2.1 12 = .ok (.iadd, 1) := by decide +kernel
theorem dX8_readFrom_13 : decode mX8_readFrom.2.1 13 = .ok (.aload_n 1, 1) := by decide +kernel
theorem dX8_readFrom_14 : decode mX8_readFrom.2.1 14 = .ok (.arraylength, 1) := by decide +kernel
theorem dX8_readFrom_15 : decode mX8_readFrom.2.1 15 = .ok (.if_icmp .le 4, 3) := by decide +kernel
theorem dX8_readFrom_18 : decode mX8_readFrom.2.1 18 = .ok (.return_, 1) := by decide +kernel
theorem dX8_readFrom_19 : decode mX8_readFrom.2.1 19 = .ok (.aload_n 1, 1) := by decide +kernel
theorem dX8_readFrom_20 : decode mX8_readFrom.2.1 20 = .ok (.iload_n 3, 1) := by decide +kernel
theorem dX8_readFrom_21 : decode mX8_readFrom.2.1 21 = .ok (.aload_n 0, 1) := by decide +kernel
theorem dX8_readFrom_22 : decode mX8_readFrom.2.1 22 = .ok (.getfield 9, 3) := by decide +kernel
theorem dX8_readFrom_25 : decode mX8_readFrom.2.1 25 = .ok (.iconst 0, 1) := by decide +kernel
theorem dX8_readFrom_26 : decode mX8_readFrom.2.1 26 = .ok (.bipush 6, 2) := by decide +kernel
theorem dX8_readFrom_28 : decode mX8_readFrom.2.1 28 = .ok (.invokestatic 21, 3) := by decide +kernel
theorem dX8_readFrom_31 : decode mX8_readFrom.2.1 31 = .ok (.aload_n 1, 1) := by decide +kernel
theorem dX8_readFrom_32 : decode mX8_readFrom.2.1 32 = .ok (.iload_n 3, 1) := by decide +kernel
theorem dX8_readFrom_33 : decode mX8_readFrom.2.1 33 = .ok (.bipush 6, 2) := by decide +kernel
theorem dX8_readFrom_35 : decode mX8_readFrom.2.1 35 = .ok (.iadd, 1) := by decide +kernel
theorem dX8_readFrom_36 : decode mX8_readFrom.2.1 36 = .ok (.aload_n 0, 1) := by decide +kernel
theorem dX8_readFrom_37 : decode mX8_readFrom.2.1 37 = .ok (.getfield 15, 3) := by decide +kernel
theorem dX8_readFrom_40 : decode mX8_readFrom.2.1 40 = .ok (.iconst 0, 1) := by decide +kernel
theorem dX8_readFrom_41 : decode mX8_readFrom.2.1 41 = .ok (.bipush 6, 2) := by decide +kernel
theorem dX8_readFrom_43 : decode mX8_readFrom.2.1 43 = .ok (.invokestatic 21, 3) := by decide +kernel
theorem dX8_readFrom_46 : decode mX8_readFrom.2.1 46 = .ok (.aload_n 0, 1) := by decide +kernel
theorem dX8_readFrom_47 : decode mX8_readFrom.2.1 47 = .ok (.aload_n 1, 1) := by decide +kernel
theorem dX8_readFrom_48 : decode mX8_readFrom.2.1 48 = .ok (.iload_n 3, 1) := by decide +kernel
theorem dX8_readFrom_49 : decode mX8_readFrom.2.1 49 = .ok (.bipush 12, 2) := by decide +kernel
theorem dX8_readFrom_51 : decode mX8_readFrom.2.1 51 = .ok (.iadd, 1) := by decide +kernel
theorem dX8_readFrom_52 : decode mX8_readFrom.2.1 52 = .ok (.iaload, 1) := by decide +kernel
theorem dX8_readFrom_53 : decode mX8_readFrom.2.1 53 = .ok (.putfield 28, 3) := by decide +kernel
theorem dX8_readFrom_56 : decode mX8_readFrom.2.1 56 = .ok (.aload_n 0, 1) := by decide +kernel
theorem dX8_readFrom_57 : decode mX8_readFrom.2.1 57 = .ok (.aload_n 1, 1) := by decide +kernel
theorem dX8_readFrom_58 : decode mX8_readFrom.2.1 58 = .ok (.iload_n 3, 1) := by decide +kernel
theorem dX8_readFrom_59 : decode mX8_readFrom.2.1 59 = .ok (.bipush 12, 2) := by decide +kernel
theorem dX8_readFrom_61 : decode mX8_readFrom.2.1 61 = .ok (.iadd, 1) := by decide +kernel
theorem dX8_readFrom_62 : decode mX8_readFrom.2.1 62 = .ok (.iconst 1, 1) := by decide +kernel
theorem dX8_readFrom_63 : decode mX8_readFrom.2.1 63 = .ok (.iadd, 1) := by decide +kernel
theorem dX8_readFrom_64 : decode mX8_readFrom.2.1 64 = .ok (.iaload, 1) := by decide +kernel
theorem dX8_readFrom_65 : decode mX8_readFrom.2.1 65 = .ok (.putfield 32, 3) := by decide +kernel
theorem dX8_readFrom_68 : decode mX8_readFrom.2.1 68 = .ok (.aload_n 0, 1) := by decide +kernel
theorem dX8_readFrom_69 : decode mX8_readFrom.2.1 69 = .ok (.aload_n 1, 1) := by decide +kernel
theorem dX8_readFrom_70 : decode mX8_readFrom.2.1 70 = .ok (.iload_n 3, 1) := by decide +kernel
theorem dX8_readFrom_71 : decode mX8_readFrom.2.1 71 = .ok (.bipush 12, 2) := by decide +kernel
theorem dX8_readFrom_73 : decode mX8_readFrom.2.1 73 = .ok (.iadd, 1) := by decide +kernel
theorem dX8_readFrom_74 : decode mX8_readFrom.2.1 74 = .ok (.iconst 2, 1) := by decide +kernel
theorem dX8_readFrom_75 : decode mX8_readFrom.2.1 75 = .ok (.iadd, 1) := by decide +kernel
theorem dX8_readFrom_76 : decode mX8_readFrom.2.1 76 = .ok (.iaload, 1) := by decide +kernel
theorem dX8_readFrom_77 : decode mX8_readFrom.2.1 77 = .ok (.putfield 38, 3) := by decide +kernel
theorem dX8_readFrom_80 : decode mX8_readFrom.2.1 80 = .ok (.return_, 1) := by decide +kernel
theorem bX8_readFrom_0 {E : px_E} {d : Nat} {w : pw_W} {Q : Option Value → pw_W → Prop} {t : ct_T} (hw : w.1 = cs t) {x2 : Int32} {r0 : Nat} (hr0 : is_State r0) {r1 n1 : Nat} (hs1 : (cs t).2.1 r1 = (100, n1)) (hn1 : n1 < 2 ^ 31) 
    (k1 : (x2 * 15) < 0 → px_W E mX8_readFrom (d + 1) 0 0 18 [.null, .null, .null, .null] [] w Q)
    (k2 : ¬ (x2 * 15) < 0 → ((x2 * 15) + 15) ≤ (nI n1) → px_W E mX8_readFrom (d + 1) 0 0 19 [.ref r0, .ref r1, .null, .int (x2 * 15)] [] w Q)
    (k3 : ¬ (x2 * 15) < 0 → ¬ ((x2 * 15) + 15) ≤ (nI n1) → px_W E mX8_readFrom (d + 1) 0 0 18 [.null, .null, .null, .null] [] w Q) :
    px_W E mX8_readFrom (d + 1) 0 0 0 [.ref r0, .ref r1, .int x2, .null] [] w Q := by
  refine px_iload_n dX8_readFrom_0 rfl rfl ?_
  refine px_bipush dX8_readFrom_1 bp_15 ?_
  refine px_imul dX8_readFrom_3 ?_
  refine px_istore_n (ls' := [.ref r0, .ref r1, .int x2, .int (x2 * 15)]) dX8_readFrom_4 rfl ⟨by decide, rfl⟩ rfl ?_
  refine px_iload_n dX8_readFrom_5 rfl rfl ?_
  refine px_if_lt (tgt := 18) dX8_readFrom_6 (by decide) (fun h1 => ?_) (fun h1 => ?_)
  ·
    exact px_forget (k1 h1) ⟨Or.inl rfl, Or.inl rfl, Or.inl rfl, Or.inl rfl, trivial⟩
  ·
    refine px_iload_n dX8_readFrom_9 rfl rfl ?_
    refine px_bipush dX8_readFrom_10 bp_15 ?_
    refine px_iadd dX8_readFrom_12 ?_
    refine px_aload_n dX8_readFrom_13 rfl rfl ?_
    refine px_alen dX8_readFrom_14 (px_sh2 hw hs1) (by decide) rfl ?_
    refine px_icmp_le (tgt := 19) dX8_readFrom_15 (by decide) (fun h2 => ?_) (fun h2 => ?_)
    ·
      exact px_forget (k2 h1 h2) ⟨Or.inr rfl, Or.inr rfl, Or.inl rfl, Or.inr rfl, trivial⟩
    ·
      exact px_forget (k3 h1 h2) ⟨Or.inl rfl, Or.inl rfl, Or.inl rfl, Or.inl rfl, trivial⟩
theorem eX8_readFrom {E : px_E} {d : Nat} {w : pw_W} {Q : Option Value → pw_W → Prop} {t : ct_T} (hw : w.1 = cs t) {x2 : Int32} {r0 : Nat} (hr0 : is_State r0) {r1 n1 : Nat} (hs1 : (cs t).2.1 r1 = (100, n1)) (hn1 : n1 < 2 ^ 31) 
    (k1 : (x2 * 15) < 0 → px_W E mX8_readFrom (d + 1) 0 0 18 [.null, .null, .null, .null] [] w Q)
    (k2 : ¬ (x2 * 15) < 0 → ((x2 * 15) + 15) ≤ (nI n1) → px_W E mX8_readFrom (d + 1) 0 0 19 [.ref r0, .ref r1, .null, .int (x2 * 15)] [] w Q)
    (k3 : ¬ (x2 * 15) < 0 → ¬ ((x2 * 15) + 15) ≤ (nI n1) → px_W E mX8_readFrom (d + 1) 0 0 18 [.null, .null, .null, .null] [] w Q) :
    px_Call E (d + 1) 0 0 mX8_readFrom [.ref r0, .ref r1, .int x2] w Q :=
  px_enter (k := 1) (by decide) (Nat.le_of_ble_eq_true rfl) rfl (px_forget (bX8_readFrom_0 hw hr0 hs1 hn1 k1 k2 k3) ⟨Or.inr rfl, Or.inr rfl, Or.inr rfl, Or.inl rfl, trivial⟩)
theorem bX8_readFrom_18 {E : px_E} {d : Nat} {w : pw_W} {Q : Option Value → pw_W → Prop} {t : ct_T} (hw : w.1 = cs t) {r0 : Nat} (hr0 : is_State r0) {r1 n1 : Nat} (hs1 : (cs t).2.1 r1 = (100, n1)) (hn1 : n1 < 2 ^ 31) 
    (k1 : Q none w) :
    px_W E mX8_readFrom (d + 1) 0 0 18 [.null, .null, .null, .null] [] w Q := by
  exact px_return dX8_readFrom_18 rfl k1
theorem bX8_readFrom_19 {E : px_E} {d : Nat} {w : pw_W} {Q : Option Value → pw_W → Prop} {t : ct_T} (hw : w.1 = cs t) {x3 : Int32} {r0 : Nat} (hr0 : is_State r0) {r1 n1 : Nat} (hs1 : (cs t).2.1 r1 = (100, n1)) (hn1 : n1 < 2 ^ 31) (ci1 : Nat) (hci1 : x3 = nI ci1) (hc2 : ci1 + 6 ≤ n1) (ci3 : Nat) (hci3 : (x3 + 6) = nI ci3) (hc4 : ci3 + 6 ≤ n1)
    (k1 : px_W E mX8_readFrom (d + 1) 0 0 46 [.ref r0, .ref r1, .null, .int x3] [] (pw_sA (pw_sA w (r0 + 1) (va_cpy (pw_I w r1) (pw_I w (r0 + 1)) ci1 0 6)) (r0 + 2) (va_cpy (pw_I (pw_sA w (r0 + 1) (va_cpy (pw_I w r1) (pw_I w (r0 + 1)) ci1 0 6)) r1) (pw_I (pw_sA w (r0 + 1) (va_cpy (pw_I w r1) (pw_I w (r0 + 1)) ci1 0 6)) (r0 + 2)) ci3 0 6)) Q) :
    px_W E mX8_readFrom (d + 1) 0 0 19 [.ref r0, .ref r1, .null, .int x3] [] w Q := by
  refine px_aload_n dX8_readFrom_19 rfl rfl ?_
  refine px_iload_n dX8_readFrom_20 rfl rfl ?_
  refine px_aload_n dX8_readFrom_21 rfl rfl ?_
  refine px_getR (v := (r0 + 1)) dX8_readFrom_22 fr_8_9 rfl (px_sh1 hw hr0.sh) (px_rf hw hr0.rf0) (Nat.succ_ne_zero _) ?_
  refine px_iconst dX8_readFrom_25 ic_0 ?_
  refine px_bipush dX8_readFrom_26 bp_6 ?_
  refine px_copy dX8_readFrom_28 (px_in3 194 rfl rfl) (px_sh2 hw hs1) (px_sh2 hw hr0.sh1) hn1 (by decide) ci1 0 6 hci1 rfl rfl hc2 (by decide) (Nat.le_of_ble_eq_true rfl) (by omega) ?_
  refine px_aload_n dX8_readFrom_31 rfl rfl ?_
  refine px_iload_n dX8_readFrom_32 rfl rfl ?_
  refine px_bipush dX8_readFrom_33 bp_6 ?_
  refine px_iadd dX8_readFrom_35 ?_
  refine px_aload_n dX8_readFrom_36 rfl rfl ?_
  refine px_getR (v := (r0 + 2)) dX8_readFrom_37 fr_8_15 rfl (px_sh1 (hA hw) hr0.sh) (px_rf (hA hw) hr0.rf1) (Nat.succ_ne_zero _) ?_
  refine px_iconst dX8_readFrom_40 ic_0 ?_
  refine px_bipush dX8_readFrom_41 bp_6 ?_
  refine px_copy dX8_readFrom_43 (px_in3 194 rfl rfl) (px_sh2 (hA hw) hs1) (px_sh2 (hA hw) hr0.sh2) hn1 (by decide) ci3 0 6 hci3 rfl rfl hc4 (by decide) (Nat.le_of_ble_eq_true rfl) (by omega) ?_
  exact k1
theorem bX8_readFrom_46 {E : px_E} {d : Nat} {w : pw_W} {Q : Option Value → pw_W → Prop} {t : ct_T} (hw : w.1 = cs t) {x3 : Int32} {r0 : Nat} (hr0 : is_State r0) {r1 n1 : Nat} (hs1 : (cs t).2.1 r1 = (100, n1)) (hn1 : n1 < 2 ^ 31) (j1 : Nat) (hj1 : (x3 + 12) = nI j1) (hl1 : j1 < n1) (j2 : Nat) (hj2 : ((x3 + 12) + 1) = nI j2) (hl2 : j2 < n1)
    (k1 : px_W E mX8_readFrom (d + 1) 0 0 68 [.ref r0, .ref r1, .null, .int x3] [] (pw_sI (pw_sI w r0 2 (pw_I w r1 j1)) r0 3 (pw_I (pw_sI w r0 2 (pw_I w r1 j1)) r1 j2)) Q) :
    px_W E mX8_readFrom (d + 1) 0 0 46 [.ref r0, .ref r1, .null, .int x3] [] w Q := by
  refine px_aload_n dX8_readFrom_46 rfl rfl ?_
  refine px_aload_n dX8_readFrom_47 rfl rfl ?_
  refine px_iload_n dX8_readFrom_48 rfl rfl ?_
  refine px_bipush dX8_readFrom_49 bp_12 ?_
  refine px_iadd dX8_readFrom_51 ?_
  refine px_iald dX8_readFrom_52 (px_sh2 hw hs1) hn1 j1 hj1 hl1 ?_
  refine px_putI dX8_readFrom_53 fl_8_28 (Or.inl rfl) rfl (px_sh1 hw hr0.sh) rfl rfl (by omega) ?_
  refine px_aload_n dX8_readFrom_56 rfl rfl ?_
  refine px_aload_n dX8_readFrom_57 rfl rfl ?_
  refine px_iload_n dX8_readFrom_58 rfl rfl ?_
  refine px_bipush dX8_readFrom_59 bp_12 ?_
  refine px_iadd dX8_readFrom_61 ?_
  refine px_iconst dX8_readFrom_62 ic_1 ?_
  refine px_iadd dX8_readFrom_63 ?_
  refine px_iald dX8_readFrom_64 (px_sh2 (hI hw) hs1) hn1 j2 hj2 hl2 ?_
  refine px_putI dX8_readFrom_65 fl_8_32 (Or.inl rfl) rfl (px_sh1 (hI hw) hr0.sh) rfl rfl (by omega) ?_
  exact k1
theorem bX8_readFrom_68 {E : px_E} {d : Nat} {w : pw_W} {Q : Option Value → pw_W → Prop} {t : ct_T} (hw : w.1 = cs t) {x3 : Int32} {r0 : Nat} (hr0 : is_State r0) {r1 n1 : Nat} (hs1 : (cs t).2.1 r1 = (100, n1)) (hn1 : n1 < 2 ^ 31) (j1 : Nat) (hj1 : ((x3 + 12) + 2) = nI j1) (hl1 : j1 < n1)
    (k1 : Q none (pw_sI w r0 4 (pw_I w r1 j1))) :
    px_W E mX8_readFrom (d + 1) 0 0 68 [.ref r0, .ref r1, .null, .int x3] [] w Q := by
  refine px_aload_n dX8_readFrom_68 rfl rfl ?_
  refine px_aload_n dX8_readFrom_69 rfl rfl ?_
  refine px_iload_n dX8_readFrom_70 rfl rfl ?_
  refine px_bipush dX8_readFrom_71 bp_12 ?_
  refine px_iadd dX8_readFrom_73 ?_
  refine px_iconst dX8_readFrom_74 ic_2 ?_
  refine px_iadd dX8_readFrom_75 ?_
  refine px_iald dX8_readFrom_76 (px_sh2 hw hs1) hn1 j1 hj1 hl1 ?_
  refine px_putI dX8_readFrom_77 fl_8_38 (Or.inl rfl) rfl (px_sh1 hw hr0.sh) rfl rfl (by omega) ?_
  exact px_return dX8_readFrom_80 rfl k1
theorem dJ7_fill_53178_0 : decode mJ7_fill_53178.2.1 0 = .ok (.iconst 0, 1) := by decide +kernel
theorem dJ7_fill_53178_1 : decode mJ7_fill_53178.2.1 1 = .ok (.istore_n 2, 1) := by decide +kernel
theorem dJ7_fill_53178_2 : decode mJ7_fill_53178.2.1 2 = .ok (.aload_n 0, 1) := by decide +kernel
theorem dJ7_fill_53178_3 : decode mJ7_fill_53178.2.1 3 = .ok (.arraylength, 1) := by decide +kernel
theorem dJ7_fill_53178_4 : decode mJ7_fill_53178.2.1 4 = .ok (.istore_n 3, 1) := by decide +kernel
theorem dJ7_fill_53178_5 : decode mJ7_fill_53178.2.1 5 = .ok (.iload_n 2, 1) := by decide +kernel
theorem dJ7_fill_53178_6 : decode mJ7_fill_53178.2.1 6 = .ok (.iload_n 3, 1) := by decide +kernel
theorem dJ7_fill_53178_7 : decode mJ7_fill_53178.2.1 7 = .ok (.if_icmp .ge 13, 3) := by decide +kernel
theorem dJ7_fill_53178_10 : decode mJ7_fill_53178.2.1 10 = .ok (.aload_n 0, 1) := by decide +kernel
theorem dJ7_fill_53178_11 : decode mJ7_fill_53178.2.1 11 = .ok (.iload_n 2, 1) := by decide +kernel
theorem dJ7_fill_53178_12 : decode mJ7_fill_53178.2.1 12 = .ok (.iload_n 1, 1) := by decide +kernel
theorem dJ7_fill_53178_13 : decode mJ7_fill_53178.2.1 13 = .ok (.iastore, 1) := by decide +kernel
theorem dJ7_fill_53178_14 : decode mJ7_fill_53178.2.1 14 = .ok (.iinc 2 1, 3) := by decide +kernel
theorem dJ7_fill_53178_17 : decode mJ7_fill_53178.2.1 17 = .ok (.goto (-12), 3) := by decide +kernel
theorem dJ7_fill_53178_20 : decode mJ7_fill_53178.2.1 20 = .ok (.return_, 1) := by decide +kernel
theorem bJ7_fill_53178_0 {E : px_E} {d : Nat} {w : pw_W} {Q : Option Value → pw_W → Prop} {t : ct_T} (hw : w.1 = cs t) {x1 : Int32} {r0 n0 : Nat} (hs0 : (cs t).2.1 r0 = (100, n0)) (hn0 : n0 < 2 ^ 31) 
    (k1 : px_W E mJ7_fill_53178 (d + 1) 0 0 5 [.ref r0, .int x1, .int 0, .int (nI n0)] [] w Q) :
    px_W E mJ7_fill_53178 (d + 1) 0 0 0 [.ref r0, .int x1, .null, .null] [] w Q := by
  refine px_iconst dJ7_fill_53178_0 ic_0 ?_
  refine px_istore_n (ls' := [.ref r0, .int x1, .int 0, .null]) dJ7_fill_53178_1 rfl ⟨by decide, rfl⟩ rfl ?_
  refine px_aload_n dJ7_fill_53178_2 rfl rfl ?_
  refine px_alen dJ7_fill_53178_3 (px_sh2 hw hs0) (by decide) rfl ?_
  refine px_istore_n (ls' := [.ref r0, .int x1, .int 0, .int (nI n0)]) dJ7_fill_53178_4 rfl ⟨by decide, rfl⟩ rfl ?_
  exact k1
theorem eJ7_fill_53178 {E : px_E} {d : Nat} {w : pw_W} {Q : Option Value → pw_W → Prop} {t : ct_T} (hw : w.1 = cs t) {x1 : Int32} {r0 n0 : Nat} (hs0 : (cs t).2.1 r0 = (100, n0)) (hn0 : n0 < 2 ^ 31) 
    (k1 : px_W E mJ7_fill_53178 (d + 1) 0 0 5 [.ref r0, .int x1, .int 0, .int (nI n0)] [] w Q) :
    px_Call E (d + 1) 0 0 mJ7_fill_53178 [.ref r0, .int x1] w Q :=
  px_enter (k := 2) (by decide) (Nat.le_of_ble_eq_true rfl) rfl (px_forget (bJ7_fill_53178_0 hw hs0 hn0 k1) ⟨Or.inr rfl, Or.inr rfl, Or.inl rfl, Or.inl rfl, trivial⟩)
theorem bJ7_fill_53178_5 {E : px_E} {d : Nat} {w : pw_W} {Q : Option Value → pw_W → Prop} {t : ct_T} (hw : w.1 = cs t) {x1 x2 x3 : Int32} {r0 n0 : Nat} (hs0 : (cs t).2.1 r0 = (100, n0)) (hn0 : n0 < 2 ^ 31) 
    (k1 : x3 ≤ x2 → Q none w)
    (k2 : ¬ x3 ≤ x2 → px_W E mJ7_fill_53178 (d + 1) 0 0 10 [.ref r0, .int x1, .int x2, .int x3] [] w Q) :
    px_W E mJ7_fill_53178 (d + 1) 0 0 5 [.ref r0, .int x1, .int x2, .int x3] [] w Q := by
  refine px_iload_n dJ7_fill_53178_5 rfl rfl ?_
  refine px_iload_n dJ7_fill_53178_6 rfl rfl ?_
  refine px_icmp_ge (tgt := 20) dJ7_fill_53178_7 (by decide) (fun h1 => ?_) (fun h1 => ?_)
  ·
    exact px_return dJ7_fill_53178_20 rfl (k1 h1)
  ·
    exact (k2 h1)
theorem bJ7_fill_53178_10 {E : px_E} {d : Nat} {w : pw_W} {Q : Option Value → pw_W → Prop} {t : ct_T} (hw : w.1 = cs t) {x1 x2 x3 : Int32} {r0 n0 : Nat} (hs0 : (cs t).2.1 r0 = (100, n0)) (hn0 : n0 < 2 ^ 31) (j1 : Nat) (hj1 : x2 = nI j1) (hl1 : j1 < n0)
    (k1 : px_W E mJ7_fill_53178 (d + 1) 0 0 5 [.ref r0, .int x1, .int (x2 + 1), .int x3] [] (pw_sI w r0 j1 x1) Q) :
    px_W E mJ7_fill_53178 (d + 1) 0 0 10 [.ref r0, .int x1, .int x2, .int x3] [] w Q := by
  refine px_aload_n dJ7_fill_53178_10 rfl rfl ?_
  refine px_iload_n dJ7_fill_53178_11 rfl rfl ?_
  refine px_iload_n dJ7_fill_53178_12 rfl rfl ?_
  refine px_iast dJ7_fill_53178_13 (px_sh2 hw hs0) hn0 j1 hj1 hl1 (by omega) ?_
  refine px_iinc (ls' := [.ref r0, .int x1, .int (x2 + 1), .int x3]) dJ7_fill_53178_14 ⟨by decide, rfl⟩ rfl rfl rfl ?_
  refine px_goto (tgt := 5) dJ7_fill_53178_17 (by decide) ?_
  exact k1
