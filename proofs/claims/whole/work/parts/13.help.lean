theorem dJ6_bitCount_0f7a4_0 : decode mJ6_bitCount_0f7a4.2.1 0 = .ok (.iload_n 0, 1) := by decide +kernel
theorem dJ6_bitCount_0f7a4_1 : decode mJ6_bitCount_0f7a4.2.1 1 = .ok (.iload_n 0, 1) := by decide +kernel
theorem dJ6_bitCount_0f7a4_2 : decode mJ6_bitCount_0f7a4.2.1 2 = .ok (.iconst 1, 1) := by decide +kernel
theorem dJ6_bitCount_0f7a4_3 : decode mJ6_bitCount_0f7a4.2.1 3 = .ok (.iushr, 1) := by decide +kernel
theorem dJ6_bitCount_0f7a4_4 : decode mJ6_bitCount_0f7a4.2.1 4 = .ok (.ldc_w 265, 3) := by decide +kernel
theorem dJ6_bitCount_0f7a4_7 : decode mJ6_bitCount_0f7a4.2.1 7 = .ok (.iand, 1) := by decide +kernel
theorem dJ6_bitCount_0f7a4_8 : decode mJ6_bitCount_0f7a4.2.1 8 = .ok (.isub, 1) := by decide +kernel
theorem dJ6_bitCount_0f7a4_9 : decode mJ6_bitCount_0f7a4.2.1 9 = .ok (.istore_n 0, 1) := by decide +kernel
theorem dJ6_bitCount_0f7a4_10 : decode mJ6_bitCount_0f7a4.2.1 10 = .ok (.iload_n 0, 1) := by decide +kernel
theorem dJ6_bitCount_0f7a4_11 : decode mJ6_bitCount_0f7a4.2.1 11 = .ok (.ldc_w 266, 3) := by decide +kernel
theorem dJ6_bitCount_0f7a4_14 : decode mJ6_bitCount_0f7a4.2.1 14 = .ok (.iand, 1) := by decide +kernel
theorem dJ6_bitCount_0f7a4_15 : decode mJ6_bitCount_0f7a4.2.1 15 = .ok (.iload_n 0, 1) := by decide +kernel
theorem dJ6_bitCount_0f7a4_16 : decode mJ6_bitCount_0f7a4.2.1 16 = .ok (.iconst 2, 1) := by decide +kernel
theorem dJ6_bitCount_0f7a4_17 : decode mJ6_bitCount_0f7a4.2.1 17 = .ok (.iushr, 1) := by decide +kernel
theorem dJ6_bitCount_0f7a4_18 : decode mJ6_bitCount_0f7a4.2.1 18 = .ok (.ldc_w 266, 3) := by decide +kernel
theorem dJ6_bitCount_0f7a4_21 : decode mJ6_bitCount_0f7a4.2.1 21 = .ok (.iand, 1) := by decide +kernel
theorem dJ6_bitCount_0f7a4_22 : decode mJ6_bitCount_0f7a4.2.1 22 = .ok (.iadd, 1) := by decide +kernel
theorem dJ6_bitCount_0f7a4_23 : decode mJ6_bitCount_0f7a4.2.1 23 = .ok (.istore_n 0, 1) := by decide +kernel
theorem dJ6_bitCount_0f7a4_24 : decode mJ6_bitCount_0f7a4.2.1 24 = .ok (.iload_n 0, 1) := by decide +kernel
theorem dJ6_bitCount_0f7a4_25 : decode mJ6_bitCount_0f7a4.2.1 25 = .ok (.iload_n 0, 1) := by decide +kernel
theorem dJ6_bitCount_0f7a4_26 : decode mJ6_bitCount_0f7a4.2.1 26 = .ok (.iconst 4, 1) := by decide +kernel
theorem dJ6_bitCount_0f7a4_27 : decode mJ6_bitCount_0f7a4.2.1 27 = .ok (.iushr, 1) := by decide +kernel
theorem dJ6_bitCount_0f7a4_28 : decode mJ6_bitCount_0f7a4.2.1 28 = .ok (.iadd, 1) := by decide +kernel
theorem dJ6_bitCount_0f7a4_29 : decode mJ6_bitCount_0f7a4.2.1 29 = .ok (.ldc_w 267, 3) := by decide +kernel
theorem dJ6_bitCount_0f7a4_32 : decode mJ6_bitCount_0f7a4.2.1 32 = .ok (.iand, 1) := by decide +kernel
theorem dJ6_bitCount_0f7a4_33 : decode mJ6_bitCount_0f7a4.2.1 33 = .ok (.istore_n 0, 1) := by decide +kernel
theorem dJ6_bitCount_0f7a4_34 : decode mJ6_bitCount_0f7a4.2.1 34 = .ok (.iload_n 0, 1) := by decide +kernel
theorem dJ6_bitCount_0f7a4_35 : decode mJ6_bitCount_0f7a4.2.1 35 = .ok (.iload_n 0, 1) := by decide +kernel
theorem dJ6_bitCount_0f7a4_36 : decode mJ6_bitCount_0f7a4.2.1 36 = .ok (.bipush 8, 2) := by decide +kernel
theorem dJ6_bitCount_0f7a4_38 : decode mJ6_bitCount_0f7a4.2.1 38 = .ok (.iushr, 1) := by decide +kernel
theorem dJ6_bitCount_0f7a4_39 : decode mJ6_bitCount_0f7a4.2.1 39 = .ok (.iadd, 1) := by decide +kernel
theorem dJ6_bitCount_0f7a4_40 : decode mJ6_bitCount_0f7a4.2.1 40 = .ok (.istore_n 0, 1) := by decide +kernel
theorem dJ6_bitCount_0f7a4_41 : decode mJ6_bitCount_0f7a4.2.1 41 = .ok (.iload_n 0, 1) := by decide +kernel
theorem dJ6_bitCount_0f7a4_42 : decode mJ6_bitCount_0f7a4.2.1 42 = .ok (.iload_n 0, 1) := by decide +kernel
theorem dJ6_bitCount_0f7a4_43 : decode mJ6_bitCount_0f7a4.2.1 43 = .ok (.bipush 16, 2) := by decide +kernel
theorem dJ6_bitCount_0f7a4_45 : decode mJ6_bitCount_0f7a4.2.1 45 = .ok (.iushr, 1) := by decide +kernel
theorem dJ6_bitCount_0f7a4_46 : decode mJ6_bitCount_0f7a4.2.1 46 = .ok (.iadd, 1) := by decide +kernel
theorem dJ6_bitCount_0f7a4_47 : decode mJ6_bitCount_0f7a4.2.1 47 = .ok (.istore_n 0, 1) := by decide +kernel
theorem dJ6_bitCount_0f7a4_48 : decode mJ6_bitCount_0f7a4.2.1 48 = .ok (.iload_n 0, 1) := by decide +kernel
theorem dJ6_bitCount_0f7a4_49 : decode mJ6_bitCount_0f7a4.2.1 49 = .ok (.bipush 63, 2) := by decide +kernel
theorem dJ6_bitCount_0f7a4_51 : decode mJ6_bitCount_0f7a4.2.1 51 = .ok (.iand, 1) := by decide +kernel
theorem dJ6_bitCount_0f7a4_52 : decode mJ6_bitCount_0f7a4.2.1 52 = .ok (.ireturn, 1) := by decide +kernel
def hJ6_bitCount_0f7a4 (x0 : Int32) : Int32 := ((((((((x0 - ((js_ushr x0 1) &&& 1431655765)) &&& 858993459) + ((js_ushr (x0 - ((js_ushr x0 1) &&& 1431655765)) 2) &&& 858993459)) + (js_ushr (((x0 - ((js_ushr x0 1) &&& 1431655765)) &&& 858993459) + ((js_ushr (x0 - ((js_ushr x0 1) &&& 1431655765)) 2) &&& 858993459)) 4)) &&& 252645135) + (js_ushr (((((x0 - ((js_ushr x0 1) &&& 1431655765)) &&& 858993459) + ((js_ushr (x0 - ((js_ushr x0 1) &&& 1431655765)) 2) &&& 858993459)) + (js_ushr (((x0 - ((js_ushr x0 1) &&& 1431655765)) &&& 858993459) + ((js_ushr (x0 - ((js_ushr x0 1) &&& 1431655765)) 2) &&& 858993459)) 4)) &&& 252645135) 8)) + (js_ushr ((((((x0 - ((js_ushr x0 1) &&& 1431655765)) &&& 858993459) + ((js_ushr (x0 - ((js_ushr x0 1) &&& 1431655765)) 2) &&& 858993459)) + (js_ushr (((x0 - ((js_ushr x0 1) &&& 1431655765)) &&& 858993459) + ((js_ushr (x0 - ((js_ushr x0 1) &&& 1431655765)) 2) &&& 858993459)) 4)) &&& 252645135) + (js_ushr (((((x0 - ((js_ushr x0 1) &&& 1431655765)) &&& 858993459) + ((js_ushr (x0 - ((js_ushr x0 1) &&& 1431655765)) 2) &&& 858993459)) + (js_ushr (((x0 - ((js_ushr x0 1) &&& 1431655765)) &&& 858993459) + ((js_ushr (x0 - ((js_ushr x0 1) &&& 1431655765)) 2) &&& 858993459)) 4)) &&& 252645135) 8)) 16)) &&& 63)
theorem sJ6_bitCount_0f7a4 {E : px_E} {d : Nat} {w : pw_W} {Q : Option Value → pw_W → Prop} {x0 : Int32}   (k : Q (some (.int (hJ6_bitCount_0f7a4 x0))) w) : px_Call E (d + 1) 0 0 mJ6_bitCount_0f7a4 [.int x0] w Q := by
  refine px_enter (k := 0) (ls := [.int x0]) (by decide) (Nat.le_of_ble_eq_true rfl) rfl (px_forget (ls' := [.int x0]) ?_ ⟨Or.inr rfl, trivial⟩)
  refine px_iload_n dJ6_bitCount_0f7a4_0 rfl rfl ?_
  refine px_iload_n dJ6_bitCount_0f7a4_1 rfl rfl ?_
  refine px_iconst dJ6_bitCount_0f7a4_2 ic_1 ?_
  refine px_iushr dJ6_bitCount_0f7a4_3 ?_
  refine px_ldcw dJ6_bitCount_0f7a4_4 (px_in4 175 rfl rfl) ?_
  refine px_iand dJ6_bitCount_0f7a4_7 ?_
  refine px_isub dJ6_bitCount_0f7a4_8 ?_
  refine px_istore_n (ls' := [.int (x0 - ((js_ushr x0 1) &&& 1431655765))]) dJ6_bitCount_0f7a4_9 rfl ⟨by decide, rfl⟩ rfl ?_
  refine px_iload_n dJ6_bitCount_0f7a4_10 rfl rfl ?_
  refine px_ldcw dJ6_bitCount_0f7a4_11 (px_in4 176 rfl rfl) ?_
  refine px_iand dJ6_bitCount_0f7a4_14 ?_
  refine px_iload_n dJ6_bitCount_0f7a4_15 rfl rfl ?_
  refine px_iconst dJ6_bitCount_0f7a4_16 ic_2 ?_
  refine px_iushr dJ6_bitCount_0f7a4_17 ?_
  refine px_ldcw dJ6_bitCount_0f7a4_18 (px_in4 176 rfl rfl) ?_
  refine px_iand dJ6_bitCount_0f7a4_21 ?_
  refine px_iadd dJ6_bitCount_0f7a4_22 ?_
  refine px_istore_n (ls' := [.int (((x0 - ((js_ushr x0 1) &&& 1431655765)) &&& 858993459) + ((js_ushr (x0 - ((js_ushr x0 1) &&& 1431655765)) 2) &&& 858993459))]) dJ6_bitCount_0f7a4_23 rfl ⟨by decide, rfl⟩ rfl ?_
  refine px_iload_n dJ6_bitCount_0f7a4_24 rfl rfl ?_
  refine px_iload_n dJ6_bitCount_0f7a4_25 rfl rfl ?_
  refine px_iconst dJ6_bitCount_0f7a4_26 ic_4 ?_
  refine px_iushr dJ6_bitCount_0f7a4_27 ?_
  refine px_iadd dJ6_bitCount_0f7a4_28 ?_
  refine px_ldcw dJ6_bitCount_0f7a4_29 (px_in4 177 rfl rfl) ?_
  refine px_iand dJ6_bitCount_0f7a4_32 ?_
  refine px_istore_n (ls' := [.int (((((x0 - ((js_ushr x0 1) &&& 1431655765)) &&& 858993459) + ((js_ushr (x0 - ((js_ushr x0 1) &&& 1431655765)) 2) &&& 858993459)) + (js_ushr (((x0 - ((js_ushr x0 1) &&& 1431655765)) &&& 858993459) + ((js_ushr (x0 - ((js_ushr x0 1) &&& 1431655765)) 2) &&& 858993459)) 4)) &&& 252645135)]) dJ6_bitCount_0f7a4_33 rfl ⟨by decide, rfl⟩ rfl ?_
  refine px_iload_n dJ6_bitCount_0f7a4_34 rfl rfl ?_
  refine px_iload_n dJ6_bitCount_0f7a4_35 rfl rfl ?_
  refine px_bipush dJ6_bitCount_0f7a4_36 bp_8 ?_
  refine px_iushr dJ6_bitCount_0f7a4_38 ?_
  refine px_iadd dJ6_bitCount_0f7a4_39 ?_
  refine px_istore_n (ls' := [.int ((((((x0 - ((js_ushr x0 1) &&& 1431655765)) &&& 858993459) + ((js_ushr (x0 - ((js_ushr x0 1) &&& 1431655765)) 2) &&& 858993459)) + (js_ushr (((x0 - ((js_ushr x0 1) &&& 1431655765)) &&& 858993459) + ((js_ushr (x0 - ((js_ushr x0 1) &&& 1431655765)) 2) &&& 858993459)) 4)) &&& 252645135) + (js_ushr (((((x0 - ((js_ushr x0 1) &&& 1431655765)) &&& 858993459) + ((js_ushr (x0 - ((js_ushr x0 1) &&& 1431655765)) 2) &&& 858993459)) + (js_ushr (((x0 - ((js_ushr x0 1) &&& 1431655765)) &&& 858993459) + ((js_ushr (x0 - ((js_ushr x0 1) &&& 1431655765)) 2) &&& 858993459)) 4)) &&& 252645135) 8))]) dJ6_bitCount_0f7a4_40 rfl ⟨by decide, rfl⟩ rfl ?_
  refine px_iload_n dJ6_bitCount_0f7a4_41 rfl rfl ?_
  refine px_iload_n dJ6_bitCount_0f7a4_42 rfl rfl ?_
  refine px_bipush dJ6_bitCount_0f7a4_43 bp_16 ?_
  refine px_iushr dJ6_bitCount_0f7a4_45 ?_
  refine px_iadd dJ6_bitCount_0f7a4_46 ?_
  refine px_istore_n (ls' := [.int (((((((x0 - ((js_ushr x0 1) &&& 1431655765)) &&& 858993459) + ((js_ushr (x0 - ((js_ushr x0 1) &&& 1431655765)) 2) &&& 858993459)) + (js_ushr (((x0 - ((js_ushr x0 1) &&& 1431655765)) &&& 858993459) + ((js_ushr (x0 - ((js_ushr x0 1) &&& 1431655765)) 2) &&& 858993459)) 4)) &&& 252645135) + (js_ushr (((((x0 - ((js_ushr x0 1) &&& 1431655765)) &&& 858993459) + ((js_ushr (x0 - ((js_ushr x0 1) &&& 1431655765)) 2) &&& 858993459)) + (js_ushr (((x0 - ((js_ushr x0 1) &&& 1431655765)) &&& 858993459) + ((js_ushr (x0 - ((js_ushr x0 1) &&& 1431655765)) 2) &&& 858993459)) 4)) &&& 252645135) 8)) + (js_ushr ((((((x0 - ((js_ushr x0 1) &&& 1431655765)) &&& 858993459) + ((js_ushr (x0 - ((js_ushr x0 1) &&& 1431655765)) 2) &&& 858993459)) + (js_ushr (((x0 - ((js_ushr x0 1) &&& 1431655765)) &&& 858993459) + ((js_ushr (x0 - ((js_ushr x0 1) &&& 1431655765)) 2) &&& 858993459)) 4)) &&& 252645135) + (js_ushr (((((x0 - ((js_ushr x0 1) &&& 1431655765)) &&& 858993459) + ((js_ushr (x0 - ((js_ushr x0 1) &&& 1431655765)) 2) &&& 858993459)) + (js_ushr (((x0 - ((js_ushr x0 1) &&& 1431655765)) &&& 858993459) + ((js_ushr (x0 - ((js_ushr x0 1) &&& 1431655765)) 2) &&& 858993459)) 4)) &&& 252645135) 8)) 16))]) dJ6_bitCount_0f7a4_47 rfl ⟨by decide, rfl⟩ rfl ?_
  refine px_iload_n dJ6_bitCount_0f7a4_48 rfl rfl ?_
  refine px_bipush dJ6_bitCount_0f7a4_49 bp_63 ?_
  refine px_iand dJ6_bitCount_0f7a4_51 ?_
  exact px_ireturn dJ6_bitCount_0f7a4_52 rfl rfl k
theorem dX10_isLetter_0 : decode mX10_isLetter.2.1 0 = .ok (.iload_n 0, 1) := by decide +kernel
theorem dX10_isLetter_1 : decode mX10_isLetter.2.1 1 = .ok (.bipush 97, 2) := by decide +kernel
theorem dX10_isLetter_3 : decode mX10_isLetter.2.1 3 = .ok (.if_icmp .lt 13, 3) := by decide +kernel
theorem dX10_isLetter_6 : decode mX10_isLetter.2.1 6 = .ok (.iload_n 0, 1) := by decide +kernel
theorem dX10_isLetter_7 : decode mX10_isLetter.2.1 7 = .ok (.bipush 122, 2) := by decide +kernel
theorem dX10_isLetter_9 : decode mX10_isLetter.2.1 9 = .ok (.if_icmp .gt 7, 3) := by decide +kernel
theorem dX10_isLetter_12 : decode mX10_isLetter.2.1 12 = .ok (.iconst 1, 1) := by decide +kernel
theorem dX10_isLetter_13 : decode mX10_isLetter.2.1 13 = .ok (.goto 4, 3) := by decide +kernel
theorem dX10_isLetter_16 : decode mX10_isLetter.2.1 16 = .ok (.iconst 0, 1) := by decide +kernel
theorem dX10_isLetter_17 : decode mX10_isLetter.2.1 17 = .ok (.ireturn, 1) := by decide +kernel
abbrev pX10_isLetter (x0 : Int32) : Prop := ¬ (x0 < 97) ∧ (¬ (122 < x0))
theorem sX10_isLetter {E : px_E} {d : Nat} {w : pw_W} {Q : Option Value → pw_W → Prop} {x0 : Int32}   (k : Q (some (.int (jb (pX10_isLetter x0)))) w) : px_Call E (d + 1) 0 0 mX10_isLetter [.int x0] w Q := by
  refine px_enter (k := 0) (ls := [.int x0]) (by decide) (Nat.le_of_ble_eq_true rfl) rfl (px_forget (ls' := [.int x0]) ?_ ⟨Or.inr rfl, trivial⟩)
  refine px_iload_n dX10_isLetter_0 rfl rfl ?_
  refine px_bipush dX10_isLetter_1 bp_97 ?_
  refine px_icmp_lt (tgt := 16) dX10_isLetter_3 (by decide) (fun h1 => ?_) (fun h1 => ?_)
  ·
    refine px_iconst dX10_isLetter_16 ic_0 ?_
    exact px_ireturn dX10_isLetter_17 rfl (by decide) (by rw [jb_f (p := pX10_isLetter x0) (fun z => z.1 h1)] at k; exact k)
  ·
    refine px_iload_n dX10_isLetter_6 rfl rfl ?_
    refine px_bipush dX10_isLetter_7 bp_122 ?_
    refine px_icmp_gt (tgt := 16) dX10_isLetter_9 (by decide) (fun h2 => ?_) (fun h2 => ?_)
    ·
      refine px_iconst dX10_isLetter_16 ic_0 ?_
      exact px_ireturn dX10_isLetter_17 rfl (by decide) (by rw [jb_f (p := pX10_isLetter x0) (fun z => (fun z => z h2) z.2)] at k; exact k)
    ·
      refine px_iconst dX10_isLetter_12 ic_1 ?_
      refine px_goto (tgt := 17) dX10_isLetter_13 (by decide) ?_
      exact px_ireturn dX10_isLetter_17 rfl (by decide) (by rw [jb_t (p := pX10_isLetter x0) ⟨h1, h2⟩] at k; exact k)
theorem dX10_isDigit_0 : decode mX10_isDigit.2.1 0 = .ok (.iload_n 0, 1) := by decide +kernel
theorem dX10_isDigit_1 : decode mX10_isDigit.2.1 1 = .ok (.bipush 48, 2) := by decide +kernel
theorem dX10_isDigit_3 : decode mX10_isDigit.2.1 3 = .ok (.if_icmp .lt 13, 3) := by decide +kernel
theorem dX10_isDigit_6 : decode mX10_isDigit.2.1 6 = .ok (.iload_n 0, 1) := by decide +kernel
theorem dX10_isDigit_7 : decode mX10_isDigit.2.1 7 = .ok (.bipush 57, 2) := by decide +kernel
theorem dX10_isDigit_9 : decode mX10_isDigit.2.1 9 = .ok (.if_icmp .gt 7, 3) := by decide +kernel
theorem dX10_isDigit_12 : decode mX10_isDigit.2.1 12 = .ok (.iconst 1, 1) := by decide +kernel
theorem dX10_isDigit_13 : decode mX10_isDigit.2.1 13 = .ok (.goto 4, 3) := by decide +kernel
theorem dX10_isDigit_16 : decode mX10_isDigit.2.1 16 = .ok (.iconst 0, 1) := by decide +kernel
theorem dX10_isDigit_17 : decode mX10_isDigit.2.1 17 = .ok (.ireturn, 1) := by decide +kernel
abbrev pX10_isDigit (x0 : Int32) : Prop := ¬ (x0 < 48) ∧ (¬ (57 < x0))
theorem sX10_isDigit {E : px_E} {d : Nat} {w : pw_W} {Q : Option Value → pw_W → Prop} {x0 : Int32}   (k : Q (some (.int (jb (pX10_isDigit x0)))) w) : px_Call E (d + 1) 0 0 mX10_isDigit [.int x0] w Q := by
  refine px_enter (k := 0) (ls := [.int x0]) (by decide) (Nat.le_of_ble_eq_true rfl) rfl (px_forget (ls' := [.int x0]) ?_ ⟨Or.inr rfl, trivial⟩)
  refine px_iload_n dX10_isDigit_0 rfl rfl ?_
  refine px_bipush dX10_isDigit_1 bp_48 ?_
  refine px_icmp_lt (tgt := 16) dX10_isDigit_3 (by decide) (fun h1 => ?_) (fun h1 => ?_)
  ·
    refine px_iconst dX10_isDigit_16 ic_0 ?_
    exact px_ireturn dX10_isDigit_17 rfl (by decide) (by rw [jb_f (p := pX10_isDigit x0) (fun z => z.1 h1)] at k; exact k)
  ·
    refine px_iload_n dX10_isDigit_6 rfl rfl ?_
    refine px_bipush dX10_isDigit_7 bp_57 ?_
    refine px_icmp_gt (tgt := 16) dX10_isDigit_9 (by decide) (fun h2 => ?_) (fun h2 => ?_)
    ·
      refine px_iconst dX10_isDigit_16 ic_0 ?_
      exact px_ireturn dX10_isDigit_17 rfl (by decide) (by rw [jb_f (p := pX10_isDigit x0) (fun z => (fun z => z h2) z.2)] at k; exact k)
    ·
      refine px_iconst dX10_isDigit_12 ic_1 ?_
      refine px_goto (tgt := 17) dX10_isDigit_13 (by decide) ?_
      exact px_ireturn dX10_isDigit_17 rfl (by decide) (by rw [jb_t (p := pX10_isDigit x0) ⟨h1, h2⟩] at k; exact k)
theorem dX10_isSign_0 : decode mX10_isSign.2.1 0 = .ok (.iload_n 0, 1) := by decide +kernel
theorem dX10_isSign_1 : decode mX10_isSign.2.1 1 = .ok (.bipush 59, 2) := by decide +kernel
theorem dX10_isSign_3 : decode mX10_isSign.2.1 3 = .ok (.if_icmp .eq 63, 3) := by decide +kernel
theorem dX10_isSign_6 : decode mX10_isSign.2.1 6 = .ok (.iload_n 0, 1) := by decide +kernel
theorem dX10_isSign_7 : decode mX10_isSign.2.1 7 = .ok (.bipush 40, 2) := by decide +kernel
theorem dX10_isSign_9 : decode mX10_isSign.2.1 9 = .ok (.if_icmp .eq 57, 3) := by decide +kernel
theorem dX10_isSign_12 : decode mX10_isSign.2.1 12 = .ok (.iload_n 0, 1) := by decide +kernel
theorem dX10_isSign_13 : decode mX10_isSign.2.1 13 = .ok (.bipush 41, 2) := by decide +kernel
theorem dX10_isSign_15 : decode mX10_isSign.2.1 15 = .ok (.if_icmp .eq 51, 3) := by decide +kernel
theorem dX10_isSign_18 : decode mX10_isSign.2.1 18 = .ok (.iload_n 0, 1) := by decide +kernel
theorem dX10_isSign_19 : decode mX10_isSign.2.1 19 = .ok (.bipush 60, 2) := by decide +kernel
theorem dX10_isSign_21 : decode mX10_isSign.2.1 21 = .ok (.if_icmp .eq 45, 3) := by decide +kernel
theorem dX10_isSign_24 : decode mX10_isSign.2.1 24 = .ok (.iload_n 0, 1) := by decide +kernel
theorem dX10_isSign_25 : decode mX10_isSign.2.1 25 = .ok (.bipush 62, 2) := by decide +kernel
theorem dX10_isSign_27 : decode mX10_isSign.2.1 27 = .ok (.if_icmp .eq 39, 3) := by decide +kernel
theorem dX10_isSign_30 : decode mX10_isSign.2.1 30 = .ok (.iload_n 0, 1) := by decide +kernel
theorem dX10_isSign_31 : decode mX10_isSign.2.1 31 = .ok (.bipush 61, 2) := by decide +kernel
theorem dX10_isSign_33 : decode mX10_isSign.2.1 33 = .ok (.if_icmp .eq 33, 3) := by decide +kernel
theorem dX10_isSign_36 : decode mX10_isSign.2.1 36 = .ok (.iload_n 0, 1) := by decide +kernel
theorem dX10_isSign_37 : decode mX10_isSign.2.1 37 = .ok (.bipush 43, 2) := by decide +kernel
theorem dX10_isSign_39 : decode mX10_isSign.2.1 39 = .ok (.if_icmp .eq 27, 3) := by decide +kernel
theorem dX10_isSign_42 : decode mX10_isSign.2.1 42 = .ok (.iload_n 0, 1) := by decide +kernel
theorem dX10_isSign_43 : decode mX10_isSign.2.1 43 = .ok (.bipush 45, 2) := by decide +kernel
theorem dX10_isSign_45 : decode mX10_isSign.2.1 45 = .ok (.if_icmp .eq 21, 3) := by decide +kernel
theorem dX10_isSign_48 : decode mX10_isSign.2.1 48 = .ok (.iload_n 0, 1) := by decide +kernel
theorem dX10_isSign_49 : decode mX10_isSign.2.1 49 = .ok (.bipush 42, 2) := by decide +kernel
theorem dX10_isSign_51 : decode mX10_isSign.2.1 51 = .ok (.if_icmp .eq 15, 3) := by decide +kernel
theorem dX10_isSign_54 : decode mX10_isSign.2.1 54 = .ok (.iload_n 0, 1) := by decide +kernel
theorem dX10_isSign_55 : decode mX10_isSign.2.1 55 = .ok (.bipush 47, 2) := by decide +kernel
theorem dX10_isSign_57 : decode mX10_isSign.2.1 57 = .ok (.if_icmp .eq 9, 3) := by decide +kernel
theorem dX10_isSign_60 : decode mX10_isSign.2.1 60 = .ok (.iload_n 0, 1) := by decide +kernel
theorem dX10_isSign_61 : decode mX10_isSign.2.1 61 = .ok (.bipush 37, 2) := by decide +kernel
theorem dX10_isSign_63 : decode mX10_isSign.2.1 63 = .ok (.if_icmp .ne 7, 3) := by decide +kernel
theorem dX10_isSign_66 : decode mX10_isSign.2.1 66 = .ok (.iconst 1, 1) := by decide +kernel
theorem dX10_isSign_67 : decode mX10_isSign.2.1 67 = .ok (.goto 4, 3) := by decide +kernel
theorem dX10_isSign_70 : decode mX10_isSign.2.1 70 = .ok (.iconst 0, 1) := by decide +kernel
theorem dX10_isSign_71 : decode mX10_isSign.2.1 71 = .ok (.ireturn, 1) := by decide +kernel
abbrev pX10_isSign (x0 : Int32) : Prop := (x0 = 59) ∨ ((x0 = 40) ∨ ((x0 = 41) ∨ ((x0 = 60) ∨ ((x0 = 62) ∨ ((x0 = 61) ∨ ((x0 = 43) ∨ ((x0 = 45) ∨ ((x0 = 42) ∨ ((x0 = 47) ∨ (x0 = 37))))))))))
theorem sX10_isSign {E : px_E} {d : Nat} {w : pw_W} {Q : Option Value → pw_W → Prop} {x0 : Int32}   (k : Q (some (.int (jb (pX10_isSign x0)))) w) : px_Call E (d + 1) 0 0 mX10_isSign [.int x0] w Q := by
  refine px_enter (k := 0) (ls := [.int x0]) (by decide) (Nat.le_of_ble_eq_true rfl) rfl (px_forget (ls' := [.int x0]) ?_ ⟨Or.inr rfl, trivial⟩)
  refine px_iload_n dX10_isSign_0 rfl rfl ?_
  refine px_bipush dX10_isSign_1 bp_59 ?_
  refine px_icmp_eq (tgt := 66) dX10_isSign_3 (by decide) (fun h1 => ?_) (fun h1 => ?_)
  ·
    refine px_iconst dX10_isSign_66 ic_1 ?_
    refine px_goto (tgt := 71) dX10_isSign_67 (by decide) ?_
    exact px_ireturn dX10_isSign_71 rfl (by decide) (by rw [jb_t (p := pX10_isSign x0) (Or.inl h1)] at k; exact k)
  ·
    refine px_iload_n dX10_isSign_6 rfl rfl ?_
    refine px_bipush dX10_isSign_7 bp_40 ?_
    refine px_icmp_eq (tgt := 66) dX10_isSign_9 (by decide) (fun h2 => ?_) (fun h2 => ?_)
    ·
      refine px_iconst dX10_isSign_66 ic_1 ?_
      refine px_goto (tgt := 71) dX10_isSign_67 (by decide) ?_
      exact px_ireturn dX10_isSign_71 rfl (by decide) (by rw [jb_t (p := pX10_isSign x0) (Or.inr (Or.inl h2))] at k; exact k)
    ·
      refine px_iload_n dX10_isSign_12 rfl rfl ?_
      refine px_bipush dX10_isSign_13 bp_41 ?_
      refine px_icmp_eq (tgt := 66) dX10_isSign_15 (by decide) (fun h3 => ?_) (fun h3 => ?_)
      ·
        refine px_iconst dX10_isSign_66 ic_1 ?_
        refine px_goto (tgt := 71) dX10_isSign_67 (by decide) ?_
        exact px_ireturn dX10_isSign_71 rfl (by decide) (by rw [jb_t (p := pX10_isSign x0) (Or.inr (Or.inr (Or.inl h3)))] at k; exact k)
      ·
        refine px_iload_n dX10_isSign_18 rfl rfl ?_
        refine px_bipush dX10_isSign_19 bp_60 ?_
        refine px_icmp_eq (tgt := 66) dX10_isSign_21 (by decide) (fun h4 => ?_) (fun h4 => ?_)
        ·
          refine px_iconst dX10_isSign_66 ic_1 ?_
          refine px_goto (tgt := 71) dX10_isSign_67 (by decide) ?_
          exact px_ireturn dX10_isSign_71 rfl (by decide) (by rw [jb_t (p := pX10_isSign x0) (Or.inr (Or.inr (Or.inr (Or.inl h4))))] at k; exact k)
        ·
          refine px_iload_n dX10_isSign_24 rfl rfl ?_
          refine px_bipush dX10_isSign_25 bp_62 ?_
          refine px_icmp_eq (tgt := 66) dX10_isSign_27 (by decide) (fun h5 => ?_) (fun h5 => ?_)
          ·
            refine px_iconst dX10_isSign_66 ic_1 ?_
            refine px_goto (tgt := 71) dX10_isSign_67 (by decide) ?_
            exact px_ireturn dX10_isSign_71 rfl (by decide) (by rw [jb_t (p := pX10_isSign x0) (Or.inr (Or.inr (Or.inr (Or.inr (Or.inl h5)))))] at k; exact k)
          ·
            refine px_iload_n dX10_isSign_30 rfl rfl ?_
            refine px_bipush dX10_isSign_31 bp_61 ?_
            refine px_icmp_eq (tgt := 66) dX10_isSign_33 (by decide) (fun h6 => ?_) (fun h6 => ?_)
            ·
              refine px_iconst dX10_isSign_66 ic_1 ?_
              refine px_goto (tgt := 71) dX10_isSign_67 (by decide) ?_
              exact px_ireturn dX10_isSign_71 rfl (by decide) (by rw [jb_t (p := pX10_isSign x0) (Or.inr (Or.inr (Or.inr (Or.inr (Or.inr (Or.inl h6))))))] at k; exact k)
            ·
              refine px_iload_n dX10_isSign_36 rfl rfl ?_
              refine px_bipush dX10_isSign_37 bp_43 ?_
              refine px_icmp_eq (tgt := 66) dX10_isSign_39 (by decide) (fun h7 => ?_) (fun h7 => ?_)
              ·
                refine px_iconst dX10_isSign_66 ic_1 ?_
                refine px_goto (tgt := 71) dX10_isSign_67 (by decide) ?_
                exact px_ireturn dX10_isSign_71 rfl (by decide) (by rw [jb_t (p := pX10_isSign x0) (Or.inr (Or.inr (Or.inr (Or.inr (Or.inr (Or.inr (Or.inl h7)))))))] at k; exact k)
              ·
                refine px_iload_n dX10_isSign_42 rfl rfl ?_
                refine px_bipush dX10_isSign_43 bp_45 ?_
                refine px_icmp_eq (tgt := 66) dX10_isSign_45 (by decide) (fun h8 => ?_) (fun h8 => ?_)
                ·
                  refine px_iconst dX10_isSign_66 ic_1 ?_
                  refine px_goto (tgt := 71) dX10_isSign_67 (by decide) ?_
                  exact px_ireturn dX10_isSign_71 rfl (by decide) (by rw [jb_t (p := pX10_isSign x0) (Or.inr (Or.inr (Or.inr (Or.inr (Or.inr (Or.inr (Or.inr (Or.inl h8))))))))] at k; exact k)
                ·
                  refine px_iload_n dX10_isSign_48 rfl rfl ?_
                  refine px_bipush dX10_isSign_49 bp_42 ?_
                  refine px_icmp_eq (tgt := 66) dX10_isSign_51 (by decide) (fun h9 => ?_) (fun h9 => ?_)
                  ·
                    refine px_iconst dX10_isSign_66 ic_1 ?_
                    refine px_goto (tgt := 71) dX10_isSign_67 (by decide) ?_
                    exact px_ireturn dX10_isSign_71 rfl (by decide) (by rw [jb_t (p := pX10_isSign x0) (Or.inr (Or.inr (Or.inr (Or.inr (Or.inr (Or.inr (Or.inr (Or.inr (Or.inl h9)))))))))] at k; exact k)
                  ·
                    refine px_iload_n dX10_isSign_54 rfl rfl ?_
                    refine px_bipush dX10_isSign_55 bp_47 ?_
                    refine px_icmp_eq (tgt := 66) dX10_isSign_57 (by decide) (fun h10 => ?_) (fun h10 => ?_)
                    ·
                      refine px_iconst dX10_isSign_66 ic_1 ?_
                      refine px_goto (tgt := 71) dX10_isSign_67 (by decide) ?_
                      exact px_ireturn dX10_isSign_71 rfl (by decide) (by rw [jb_t (p := pX10_isSign x0) (Or.inr (Or.inr (Or.inr (Or.inr (Or.inr (Or.inr (Or.inr (Or.inr (Or.inr (Or.inl h10))))))))))] at k; exact k)
                    ·
                      refine px_iload_n dX10_isSign_60 rfl rfl ?_
                      refine px_bipush dX10_isSign_61 bp_37 ?_
                      refine px_icmp_ne (tgt := 70) dX10_isSign_63 (by decide) (fun h11 => ?_) (fun h11 => ?_)
                      ·
                        refine px_iconst dX10_isSign_70 ic_0 ?_
                        exact px_ireturn dX10_isSign_71 rfl (by decide) (by rw [jb_f (p := pX10_isSign x0) (fun z => z.elim h1 (fun z => z.elim h2 (fun z => z.elim h3 (fun z => z.elim h4 (fun z => z.elim h5 (fun z => z.elim h6 (fun z => z.elim h7 (fun z => z.elim h8 (fun z => z.elim h9 (fun z => z.elim h10 h11))))))))))] at k; exact k)
                      ·
                        refine px_iconst dX10_isSign_66 ic_1 ?_
                        refine px_goto (tgt := 71) dX10_isSign_67 (by decide) ?_
                        exact px_ireturn dX10_isSign_71 rfl (by decide) (by rw [jb_t (p := pX10_isSign x0) (Or.inr (Or.inr (Or.inr (Or.inr (Or.inr (Or.inr (Or.inr (Or.inr (Or.inr (Or.inr h11))))))))))] at k; exact k)
theorem dX10_truth_0 : decode mX10_truth.2.1 0 = .ok (.iload_n 0, 1) := by decide +kernel
theorem dX10_truth_1 : decode mX10_truth.2.1 1 = .ok (.ifCond .eq 7, 3) := by decide +kernel
theorem dX10_truth_4 : decode mX10_truth.2.1 4 = .ok (.iconst 1, 1) := by decide +kernel
theorem dX10_truth_5 : decode mX10_truth.2.1 5 = .ok (.goto 4, 3) := by decide +kernel
theorem dX10_truth_8 : decode mX10_truth.2.1 8 = .ok (.iconst 0, 1) := by decide +kernel
theorem dX10_truth_9 : decode mX10_truth.2.1 9 = .ok (.ireturn, 1) := by decide +kernel
def hX10_truth (x0 : Int32) : Int32 := (if x0 = 0 then 0 else 1)
theorem sX10_truth {E : px_E} {d : Nat} {w : pw_W} {Q : Option Value → pw_W → Prop} {x0 : Int32}   (k : Q (some (.int (hX10_truth x0))) w) : px_Call E (d + 1) 0 0 mX10_truth [.int x0] w Q := by
  refine px_enter (k := 0) (ls := [.int x0]) (by decide) (Nat.le_of_ble_eq_true rfl) rfl (px_forget (ls' := [.int x0]) ?_ ⟨Or.inr rfl, trivial⟩)
  refine px_iload_n dX10_truth_0 rfl rfl ?_
  refine px_if_eq (tgt := 8) dX10_truth_1 (by decide) (fun h1 => ?_) (fun h1 => ?_)
  ·
    refine px_iconst dX10_truth_8 ic_0 ?_
    exact px_ireturn dX10_truth_9 rfl rfl (by unfold hX10_truth at k; rw [if_pos h1] at k; exact k)
  ·
    refine px_iconst dX10_truth_4 ic_1 ?_
    refine px_goto (tgt := 9) dX10_truth_5 (by decide) ?_
    exact px_ireturn dX10_truth_9 rfl rfl (by unfold hX10_truth at k; rw [if_neg h1] at k; exact k)
theorem dX10_within_0 : decode mX10_within.2.1 0 = .ok (.iload_n 0, 1) := by decide +kernel
theorem dX10_within_1 : decode mX10_within.2.1 1 = .ok (.iload_n 1, 1) := by decide +kernel
theorem dX10_within_2 : decode mX10_within.2.1 2 = .ok (.if_icmp .ge 7, 3) := by decide +kernel
theorem dX10_within_5 : decode mX10_within.2.1 5 = .ok (.iload_n 1, 1) := by decide +kernel
theorem dX10_within_6 : decode mX10_within.2.1 6 = .ok (.goto 13, 3) := by decide +kernel
theorem dX10_within_9 : decode mX10_within.2.1 9 = .ok (.iload_n 0, 1) := by decide +kernel
theorem dX10_within_10 : decode mX10_within.2.1 10 = .ok (.iload_n 2, 1) := by decide +kernel
theorem dX10_within_11 : decode mX10_within.2.1 11 = .ok (.if_icmp .le 7, 3) := by decide +kernel
theorem dX10_within_14 : decode mX10_within.2.1 14 = .ok (.iload_n 2, 1) := by decide +kernel
theorem dX10_within_15 : decode mX10_within.2.1 15 = .ok (.goto 4, 3) := by decide +kernel
theorem dX10_within_18 : decode mX10_within.2.1 18 = .ok (.iload_n 0, 1) := by decide +kernel
theorem dX10_within_19 : decode mX10_within.2.1 19 = .ok (.ireturn, 1) := by decide +kernel
def hX10_within (x0 : Int32) (x1 : Int32) (x2 : Int32) : Int32 := (if x1 ≤ x0 then (if x0 ≤ x2 then x0 else x2) else x1)
theorem sX10_within {E : px_E} {d : Nat} {w : pw_W} {Q : Option Value → pw_W → Prop} {x0 x1 x2 : Int32}   (k : Q (some (.int (hX10_within x0 x1 x2))) w) : px_Call E (d + 1) 0 0 mX10_within [.int x0, .int x1, .int x2] w Q := by
  refine px_enter (k := 0) (ls := [.int x0, .int x1, .int x2]) (by decide) (Nat.le_of_ble_eq_true rfl) rfl (px_forget (ls' := [.int x0, .int x1, .int x2]) ?_ ⟨Or.inr rfl, Or.inr rfl, Or.inr rfl, trivial⟩)
  refine px_iload_n dX10_within_0 rfl rfl ?_
  refine px_iload_n dX10_within_1 rfl rfl ?_
  refine px_icmp_ge (tgt := 9) dX10_within_2 (by decide) (fun h1 => ?_) (fun h1 => ?_)
  ·
    refine px_iload_n dX10_within_9 rfl rfl ?_
    refine px_iload_n dX10_within_10 rfl rfl ?_
    refine px_icmp_le (tgt := 18) dX10_within_11 (by decide) (fun h2 => ?_) (fun h2 => ?_)
    ·
      refine px_iload_n dX10_within_18 rfl rfl ?_
      exact px_ireturn dX10_within_19 rfl rfl (by unfold hX10_within at k; rw [if_pos h1, if_pos h2] at k; exact k)
    ·
      refine px_iload_n dX10_within_14 rfl rfl ?_
      refine px_goto (tgt := 19) dX10_within_15 (by decide) ?_
      exact px_ireturn dX10_within_19 rfl rfl (by unfold hX10_within at k; rw [if_pos h1, if_neg h2] at k; exact k)
  ·
    refine px_iload_n dX10_within_5 rfl rfl ?_
    refine px_goto (tgt := 19) dX10_within_6 (by decide) ?_
    exact px_ireturn dX10_within_19 rfl rfl (by unfold hX10_within at k; rw [if_neg h1] at k; exact k)
theorem dX10_lesser_0 : decode mX10_lesser.2.1 0 = .ok (.iload_n 0, 1) := by decide +kernel
theorem dX10_lesser_1 : decode mX10_lesser.2.1 1 = .ok (.iload_n 1, 1) := by decide +kernel
theorem dX10_lesser_2 : decode mX10_lesser.2.1 2 = .ok (.if_icmp .ge 7, 3) := by decide +kernel
theorem dX10_lesser_5 : decode mX10_lesser.2.1 5 = .ok (.iload_n 0, 1) := by decide +kernel
theorem dX10_lesser_6 : decode mX10_lesser.2.1 6 = .ok (.goto 4, 3) := by decide +kernel
theorem dX10_lesser_9 : decode mX10_lesser.2.1 9 = .ok (.iload_n 1, 1) := by decide +kernel
theorem dX10_lesser_10 : decode mX10_lesser.2.1 10 = .ok (.ireturn, 1) := by decide +kernel
def hX10_lesser (x0 : Int32) (x1 : Int32) : Int32 := (if x1 ≤ x0 then x1 else x0)
theorem sX10_lesser {E : px_E} {d : Nat} {w : pw_W} {Q : Option Value → pw_W → Prop} {x0 x1 : Int32}   (k : Q (some (.int (hX10_lesser x0 x1))) w) : px_Call E (d + 1) 0 0 mX10_lesser [.int x0, .int x1] w Q := by
  refine px_enter (k := 0) (ls := [.int x0, .int x1]) (by decide) (Nat.le_of_ble_eq_true rfl) rfl (px_forget (ls' := [.int x0, .int x1]) ?_ ⟨Or.inr rfl, Or.inr rfl, trivial⟩)
  refine px_iload_n dX10_lesser_0 rfl rfl ?_
  refine px_iload_n dX10_lesser_1 rfl rfl ?_
  refine px_icmp_ge (tgt := 9) dX10_lesser_2 (by decide) (fun h1 => ?_) (fun h1 => ?_)
  ·
    refine px_iload_n dX10_lesser_9 rfl rfl ?_
    exact px_ireturn dX10_lesser_10 rfl rfl (by unfold hX10_lesser at k; rw [if_pos h1] at k; exact k)
  ·
    refine px_iload_n dX10_lesser_5 rfl rfl ?_
    refine px_goto (tgt := 10) dX10_lesser_6 (by decide) ?_
    exact px_ireturn dX10_lesser_10 rfl rfl (by unfold hX10_lesser at k; rw [if_neg h1] at k; exact k)
theorem dX10_greater_0 : decode mX10_greater.2.1 0 = .ok (.iload_n 0, 1) := by decide +kernel
theorem dX10_greater_1 : decode mX10_greater.2.1 1 = .ok (.iload_n 1, 1) := by decide +kernel
theorem dX10_greater_2 : decode mX10_greater.2.1 2 = .ok (.if_icmp .le 7, 3) := by decide +kernel
theorem dX10_greater_5 : decode mX10_greater.2.1 5 = .ok (.iload_n 0, 1) := by decide +kernel
theorem dX10_greater_6 : decode mX10_greater.2.1 6 = .ok (.goto 4, 3) := by decide +kernel
theorem dX10_greater_9 : decode mX10_greater.2.1 9 = .ok (.iload_n 1, 1) := by decide +kernel
theorem dX10_greater_10 : decode mX10_greater.2.1 10 = .ok (.ireturn, 1) := by decide +kernel
def hX10_greater (x0 : Int32) (x1 : Int32) : Int32 := (if x0 ≤ x1 then x1 else x0)
theorem sX10_greater {E : px_E} {d : Nat} {w : pw_W} {Q : Option Value → pw_W → Prop} {x0 x1 : Int32}   (k : Q (some (.int (hX10_greater x0 x1))) w) : px_Call E (d + 1) 0 0 mX10_greater [.int x0, .int x1] w Q := by
  refine px_enter (k := 0) (ls := [.int x0, .int x1]) (by decide) (Nat.le_of_ble_eq_true rfl) rfl (px_forget (ls' := [.int x0, .int x1]) ?_ ⟨Or.inr rfl, Or.inr rfl, trivial⟩)
  refine px_iload_n dX10_greater_0 rfl rfl ?_
  refine px_iload_n dX10_greater_1 rfl rfl ?_
  refine px_icmp_le (tgt := 9) dX10_greater_2 (by decide) (fun h1 => ?_) (fun h1 => ?_)
  ·
    refine px_iload_n dX10_greater_9 rfl rfl ?_
    exact px_ireturn dX10_greater_10 rfl rfl (by unfold hX10_greater at k; rw [if_pos h1] at k; exact k)
  ·
    refine px_iload_n dX10_greater_5 rfl rfl ?_
    refine px_goto (tgt := 10) dX10_greater_6 (by decide) ?_
    exact px_ireturn dX10_greater_10 rfl rfl (by unfold hX10_greater at k; rw [if_neg h1] at k; exact k)
theorem dX10_isIn_0 : decode mX10_isIn.2.1 0 = .ok (.iload_n 0, 1) := by decide +kernel
theorem dX10_isIn_1 : decode mX10_isIn.2.1 1 = .ok (.iload_n 1, 1) := by decide +kernel
theorem dX10_isIn_2 : decode mX10_isIn.2.1 2 = .ok (.if_icmp .lt 12, 3) := by decide +kernel
theorem dX10_isIn_5 : decode mX10_isIn.2.1 5 = .ok (.iload_n 0, 1) := by decide +kernel
theorem dX10_isIn_6 : decode mX10_isIn.2.1 6 = .ok (.iload_n 2, 1) := by decide +kernel
theorem dX10_isIn_7 : decode mX10_isIn.2.1 7 = .ok (.if_icmp .gt 7, 3) := by decide +kernel
theorem dX10_isIn_10 : decode mX10_isIn.2.1 10 = .ok (.iconst 1, 1) := by decide +kernel
theorem dX10_isIn_11 : decode mX10_isIn.2.1 11 = .ok (.goto 4, 3) := by decide +kernel
theorem dX10_isIn_14 : decode mX10_isIn.2.1 14 = .ok (.iconst 0, 1) := by decide +kernel
theorem dX10_isIn_15 : decode mX10_isIn.2.1 15 = .ok (.ireturn, 1) := by decide +kernel
abbrev pX10_isIn (x0 : Int32) (x1 : Int32) (x2 : Int32) : Prop := ¬ (x0 < x1) ∧ (¬ (x2 < x0))
theorem sX10_isIn {E : px_E} {d : Nat} {w : pw_W} {Q : Option Value → pw_W → Prop} {x0 x1 x2 : Int32}   (k : Q (some (.int (jb (pX10_isIn x0 x1 x2)))) w) : px_Call E (d + 1) 0 0 mX10_isIn [.int x0, .int x1, .int x2] w Q := by
  refine px_enter (k := 0) (ls := [.int x0, .int x1, .int x2]) (by decide) (Nat.le_of_ble_eq_true rfl) rfl (px_forget (ls' := [.int x0, .int x1, .int x2]) ?_ ⟨Or.inr rfl, Or.inr rfl, Or.inr rfl, trivial⟩)
  refine px_iload_n dX10_isIn_0 rfl rfl ?_
  refine px_iload_n dX10_isIn_1 rfl rfl ?_
  refine px_icmp_lt (tgt := 14) dX10_isIn_2 (by decide) (fun h1 => ?_) (fun h1 => ?_)
  ·
    refine px_iconst dX10_isIn_14 ic_0 ?_
    exact px_ireturn dX10_isIn_15 rfl (by decide) (by rw [jb_f (p := pX10_isIn x0 x1 x2) (fun z => z.1 h1)] at k; exact k)
  ·
    refine px_iload_n dX10_isIn_5 rfl rfl ?_
    refine px_iload_n dX10_isIn_6 rfl rfl ?_
    refine px_icmp_gt (tgt := 14) dX10_isIn_7 (by decide) (fun h2 => ?_) (fun h2 => ?_)
    ·
      refine px_iconst dX10_isIn_14 ic_0 ?_
      exact px_ireturn dX10_isIn_15 rfl (by decide) (by rw [jb_f (p := pX10_isIn x0 x1 x2) (fun z => (fun z => z h2) z.2)] at k; exact k)
    ·
      refine px_iconst dX10_isIn_10 ic_1 ?_
      refine px_goto (tgt := 15) dX10_isIn_11 (by decide) ?_
      exact px_ireturn dX10_isIn_15 rfl (by decide) (by rw [jb_t (p := pX10_isIn x0 x1 x2) ⟨h1, h2⟩] at k; exact k)
theorem dX10_isBox_0 : decode mX10_isBox.2.1 0 = .ok (.iload_n 0, 1) := by decide +kernel
theorem dX10_isBox_1 : decode mX10_isBox.2.1 1 = .ok (.ifCond .lt 12, 3) := by decide +kernel
theorem dX10_isBox_4 : decode mX10_isBox.2.1 4 = .ok (.iload_n 0, 1) := by decide +kernel
theorem dX10_isBox_5 : decode mX10_isBox.2.1 5 = .ok (.iconst 3, 1) := by decide +kernel
theorem dX10_isBox_6 : decode mX10_isBox.2.1 6 = .ok (.if_icmp .ge 7, 3) := by decide +kernel
theorem dX10_isBox_9 : decode mX10_isBox.2.1 9 = .ok (.iconst 1, 1) := by decide +kernel
theorem dX10_isBox_10 : decode mX10_isBox.2.1 10 = .ok (.goto 4, 3) := by decide +kernel
theorem dX10_isBox_13 : decode mX10_isBox.2.1 13 = .ok (.iconst 0, 1) := by decide +kernel
theorem dX10_isBox_14 : decode mX10_isBox.2.1 14 = .ok (.ireturn, 1) := by decide +kernel
abbrev pX10_isBox (x0 : Int32) : Prop := ¬ (x0 < 0) ∧ (¬ (3 ≤ x0))
theorem sX10_isBox {E : px_E} {d : Nat} {w : pw_W} {Q : Option Value → pw_W → Prop} {x0 : Int32}   (k : Q (some (.int (jb (pX10_isBox x0)))) w) : px_Call E (d + 1) 0 0 mX10_isBox [.int x0] w Q := by
  refine px_enter (k := 0) (ls := [.int x0]) (by decide) (Nat.le_of_ble_eq_true rfl) rfl (px_forget (ls' := [.int x0]) ?_ ⟨Or.inr rfl, trivial⟩)
  refine px_iload_n dX10_isBox_0 rfl rfl ?_
  refine px_if_lt (tgt := 13) dX10_isBox_1 (by decide) (fun h1 => ?_) (fun h1 => ?_)
  ·
    refine px_iconst dX10_isBox_13 ic_0 ?_
    exact px_ireturn dX10_isBox_14 rfl (by decide) (by rw [jb_f (p := pX10_isBox x0) (fun z => z.1 h1)] at k; exact k)
  ·
    refine px_iload_n dX10_isBox_4 rfl rfl ?_
    refine px_iconst dX10_isBox_5 ic_3 ?_
    refine px_icmp_ge (tgt := 13) dX10_isBox_6 (by decide) (fun h2 => ?_) (fun h2 => ?_)
    ·
      refine px_iconst dX10_isBox_13 ic_0 ?_
      exact px_ireturn dX10_isBox_14 rfl (by decide) (by rw [jb_f (p := pX10_isBox x0) (fun z => (fun z => z h2) z.2)] at k; exact k)
    ·
      refine px_iconst dX10_isBox_9 ic_1 ?_
      refine px_goto (tgt := 14) dX10_isBox_10 (by decide) ?_
      exact px_ireturn dX10_isBox_14 rfl (by decide) (by rw [jb_t (p := pX10_isBox x0) ⟨h1, h2⟩] at k; exact k)
theorem dX10_tight_0 : decode mX10_tight.2.1 0 = .ok (.iload_n 0, 1) := by decide +kernel
theorem dX10_tight_1 : decode mX10_tight.2.1 1 = .ok (.lookupswitch 85 #[(21, 79), (38, 77), (43, 83), (45, 83), (60, 81), (61, 81), (62, 81), (124, 75)], 75) := by decide +kernel
theorem dX10_tight_76 : decode mX10_tight.2.1 76 = .ok (.iconst 1, 1) := by decide +kernel
theorem dX10_tight_77 : decode mX10_tight.2.1 77 = .ok (.ireturn, 1) := by decide +kernel
theorem dX10_tight_78 : decode mX10_tight.2.1 78 = .ok (.iconst 2, 1) := by decide +kernel
theorem dX10_tight_79 : decode mX10_tight.2.1 79 = .ok (.ireturn, 1) := by decide +kernel
theorem dX10_tight_80 : decode mX10_tight.2.1 80 = .ok (.iconst 3, 1) := by decide +kernel
theorem dX10_tight_81 : decode mX10_tight.2.1 81 = .ok (.ireturn, 1) := by decide +kernel
theorem dX10_tight_82 : decode mX10_tight.2.1 82 = .ok (.iconst 4, 1) := by decide +kernel
theorem dX10_tight_83 : decode mX10_tight.2.1 83 = .ok (.ireturn, 1) := by decide +kernel
theorem dX10_tight_84 : decode mX10_tight.2.1 84 = .ok (.iconst 5, 1) := by decide +kernel
theorem dX10_tight_85 : decode mX10_tight.2.1 85 = .ok (.ireturn, 1) := by decide +kernel
theorem dX10_tight_86 : decode mX10_tight.2.1 86 = .ok (.bipush 6, 2) := by decide +kernel
theorem dX10_tight_88 : decode mX10_tight.2.1 88 = .ok (.ireturn, 1) := by decide +kernel
def hX10_tight (x0 : Int32) : Int32 := (if x0 = 21 then 3 else (if x0 = 38 then 2 else (if x0 = 43 then 5 else (if x0 = 45 then 5 else (if x0 = 60 then 4 else (if x0 = 61 then 4 else (if x0 = 62 then 4 else (if x0 = 124 then 1 else 6))))))))
theorem sX10_tight {E : px_E} {d : Nat} {w : pw_W} {Q : Option Value → pw_W → Prop} {x0 : Int32}   (k : Q (some (.int (hX10_tight x0))) w) : px_Call E (d + 1) 0 0 mX10_tight [.int x0] w Q := by
  refine px_enter (k := 0) (ls := [.int x0]) (by decide) (Nat.le_of_ble_eq_true rfl) rfl (px_forget (ls' := [.int x0]) ?_ ⟨Or.inr rfl, trivial⟩)
  refine px_iload_n dX10_tight_0 rfl rfl ?_
  by_cases h1 : x0 = 21
  ·
    refine px_lookup (off := 79) (tgt := 80) dX10_tight_1 (by decide) (by rw [h1]; decide) (by decide) ?_
    refine px_iconst dX10_tight_80 ic_3 ?_
    exact px_ireturn dX10_tight_81 rfl rfl (by unfold hX10_tight at k; rw [if_pos h1] at k; exact k)
  by_cases h2 : x0 = 38
  ·
    refine px_lookup (off := 77) (tgt := 78) dX10_tight_1 (by decide) (by rw [h2]; decide) (by decide) ?_
    refine px_iconst dX10_tight_78 ic_2 ?_
    exact px_ireturn dX10_tight_79 rfl rfl (by unfold hX10_tight at k; rw [if_neg h1, if_pos h2] at k; exact k)
  by_cases h3 : x0 = 43
  ·
    refine px_lookup (off := 83) (tgt := 84) dX10_tight_1 (by decide) (by rw [h3]; decide) (by decide) ?_
    refine px_iconst dX10_tight_84 ic_5 ?_
    exact px_ireturn dX10_tight_85 rfl rfl (by unfold hX10_tight at k; rw [if_neg h1, if_neg h2, if_pos h3] at k; exact k)
  by_cases h4 : x0 = 45
  ·
    refine px_lookup (off := 83) (tgt := 84) dX10_tight_1 (by decide) (by rw [h4]; decide) (by decide) ?_
    refine px_iconst dX10_tight_84 ic_5 ?_
    exact px_ireturn dX10_tight_85 rfl rfl (by unfold hX10_tight at k; rw [if_neg h1, if_neg h2, if_neg h3, if_pos h4] at k; exact k)
  by_cases h5 : x0 = 60
  ·
    refine px_lookup (off := 81) (tgt := 82) dX10_tight_1 (by decide) (by rw [h5]; decide) (by decide) ?_
    refine px_iconst dX10_tight_82 ic_4 ?_
    exact px_ireturn dX10_tight_83 rfl rfl (by unfold hX10_tight at k; rw [if_neg h1, if_neg h2, if_neg h3, if_neg h4, if_pos h5] at k; exact k)
  by_cases h6 : x0 = 61
  ·
    refine px_lookup (off := 81) (tgt := 82) dX10_tight_1 (by decide) (by rw [h6]; decide) (by decide) ?_
    refine px_iconst dX10_tight_82 ic_4 ?_
    exact px_ireturn dX10_tight_83 rfl rfl (by unfold hX10_tight at k; rw [if_neg h1, if_neg h2, if_neg h3, if_neg h4, if_neg h5, if_pos h6] at k; exact k)
  by_cases h7 : x0 = 62
  ·
    refine px_lookup (off := 81) (tgt := 82) dX10_tight_1 (by decide) (by rw [h7]; decide) (by decide) ?_
    refine px_iconst dX10_tight_82 ic_4 ?_
    exact px_ireturn dX10_tight_83 rfl rfl (by unfold hX10_tight at k; rw [if_neg h1, if_neg h2, if_neg h3, if_neg h4, if_neg h5, if_neg h6, if_pos h7] at k; exact k)
  by_cases h8 : x0 = 124
  ·
    refine px_lookup (off := 75) (tgt := 76) dX10_tight_1 (by decide) (by rw [h8]; decide) (by decide) ?_
    refine px_iconst dX10_tight_76 ic_1 ?_
    exact px_ireturn dX10_tight_77 rfl rfl (by unfold hX10_tight at k; rw [if_neg h1, if_neg h2, if_neg h3, if_neg h4, if_neg h5, if_neg h6, if_neg h7, if_pos h8] at k; exact k)
  refine px_lookup (off := 85) (tgt := 86) dX10_tight_1 (by decide) (by simp only []; rw [lv_osw h1 (by decide), lv_osw h2 (by decide), lv_osw h3 (by decide), lv_osw h4 (by decide), lv_osw h5 (by decide), lv_osw h6 (by decide), lv_osw h7 (by decide), lv_osw h8 (by decide)]; rfl) (by decide) ?_
  refine px_bipush dX10_tight_86 bp_6 ?_
  exact px_ireturn dX10_tight_88 rfl rfl (by unfold hX10_tight at k; rw [if_neg h1, if_neg h2, if_neg h3, if_neg h4, if_neg h5, if_neg h6, if_neg h7, if_neg h8] at k; exact k)
theorem dX10_isWord_0 : decode mX10_isWord.2.1 0 = .ok (.aload_n 0, 1) := by decide +kernel
theorem dX10_isWord_1 : decode mX10_isWord.2.1 1 = .ok (.getfield 184, 3) := by decide +kernel
theorem dX10_isWord_4 : decode mX10_isWord.2.1 4 = .ok (.iconst 1, 1) := by decide +kernel
theorem dX10_isWord_5 : decode mX10_isWord.2.1 5 = .ok (.if_icmp .ne 16, 3) := by decide +kernel
theorem dX10_isWord_8 : decode mX10_isWord.2.1 8 = .ok (.aload_n 0, 1) := by decide +kernel
theorem dX10_isWord_9 : decode mX10_isWord.2.1 9 = .ok (.getfield 177, 3) := by decide +kernel
theorem dX10_isWord_12 : decode mX10_isWord.2.1 12 = .ok (.lload_n 1, 1) := by decide +kernel
theorem dX10_isWord_13 : decode mX10_isWord.2.1 13 = .ok (.lcmp, 1) := by decide +kernel
theorem dX10_isWord_14 : decode mX10_isWord.2.1 14 = .ok (.ifCond .ne 7, 3) := by decide +kernel
theorem dX10_isWord_17 : decode mX10_isWord.2.1 17 = .ok (.iconst 1, 1) := by decide +kernel
theorem dX10_isWord_18 : decode mX10_isWord.2.1 18 = .ok (.goto 4, 3) := by decide +kernel
theorem dX10_isWord_21 : decode mX10_isWord.2.1 21 = .ok (.iconst 0, 1) := by decide +kernel
theorem dX10_isWord_22 : decode mX10_isWord.2.1 22 = .ok (.ireturn, 1) := by decide +kernel
abbrev pX10_isWord (w : pw_W) (l1 : Int64) : Prop := ((pw_I w 61 6) = 1) ∧ ((pw_L w 61 9) = l1)
theorem sX10_isWord {E : px_E} {d : Nat} {w : pw_W} {Q : Option Value → pw_W → Prop} {t : ct_T} (hw : w.1 = cs t) {l1 : Int64}   (k : Q (some (.int (jb (pX10_isWord w l1)))) w) : px_Call E (d + 1) 0 0 mX10_isWord [.ref 61, .long l1] w Q := by
  refine px_enter (k := 0) (ls := [.ref 61, .long l1, .null]) (by decide) (Nat.le_of_ble_eq_true rfl) rfl (px_forget (ls' := [.ref 61, .long l1, .null]) ?_ ⟨Or.inr rfl, Or.inr rfl, Or.inl rfl, trivial⟩)
  refine px_aload_n dX10_isWord_0 rfl rfl ?_
  refine px_getI dX10_isWord_1 fr_10_184 rfl (px_sh1 hw sh_61) ?_
  refine px_iconst dX10_isWord_4 ic_1 ?_
  refine px_icmp_ne (tgt := 21) dX10_isWord_5 (by decide) (fun h1 => ?_) (fun h1 => ?_)
  ·
    refine px_iconst dX10_isWord_21 ic_0 ?_
    exact px_ireturn dX10_isWord_22 rfl (by decide) (by rw [jb_f (p := pX10_isWord w l1) (fun z => h1 z.1)] at k; exact k)
  ·
    refine px_aload_n dX10_isWord_8 rfl rfl ?_
    refine px_getL dX10_isWord_9 fr_10_177 rfl (px_sh1 hw sh_61) ?_
    refine px_lload_n dX10_isWord_12 rfl rfl ?_
    refine px_lcmp_ne (tgt := 21) dX10_isWord_13 dX10_isWord_14 (by decide) (fun h2 => ?_) (fun h2 => ?_)
    ·
      refine px_iconst dX10_isWord_21 ic_0 ?_
      exact px_ireturn dX10_isWord_22 rfl (by decide) (by rw [jb_f (p := pX10_isWord w l1) (fun z => h2 z.2)] at k; exact k)
    ·
      refine px_iconst dX10_isWord_17 ic_1 ?_
      refine px_goto (tgt := 22) dX10_isWord_18 (by decide) ?_
      exact px_ireturn dX10_isWord_22 rfl (by decide) (by rw [jb_t (p := pX10_isWord w l1) ⟨h1, h2⟩] at k; exact k)
theorem dX10_isOwn_0 : decode mX10_isOwn.2.1 0 = .ok (.aload_n 0, 1) := by decide +kernel
theorem dX10_isOwn_1 : decode mX10_isOwn.2.1 1 = .ok (.getfield 177, 3) := by decide +kernel
theorem dX10_isOwn_4 : decode mX10_isOwn.2.1 4 = .ok (.ldc2_w 200, 3) := by decide +kernel
theorem dX10_isOwn_7 : decode mX10_isOwn.2.1 7 = .ok (.lcmp, 1) := by decide +kernel
theorem dX10_isOwn_8 : decode mX10_isOwn.2.1 8 = .ok (.ifCond .eq 212, 3) := by decide +kernel
theorem dX10_isOwn_11 : decode mX10_isOwn.2.1 11 = .ok (.aload_n 0, 1) := by decide +kernel
theorem dX10_isOwn_12 : decode mX10_isOwn.2.1 12 = .ok (.getfield 177, 3) := by decide +kernel
theorem dX10_isOwn_15 : decode mX10_isOwn.2.1 15 = .ok (.ldc2_w 202, 3) := by decide +kernel
theorem dX10_isOwn_18 : decode mX10_isOwn.2.1 18 = .ok (.lcmp, 1) := by decide +kernel
theorem dX10_isOwn_19 : decode mX10_isOwn.2.1 19 = .ok (.ifCond .eq 201, 3) := by decide +kernel
theorem dX10_isOwn_22 : decode mX10_isOwn.2.1 22 = .ok (.aload_n 0, 1) := by decide +kernel
theorem dX10_isOwn_23 : decode mX10_isOwn.2.1 23 = .ok (.getfield 177, 3) := by decide +kernel
theorem dX10_isOwn_26 : decode mX10_isOwn.2.1 26 = .ok (.ldc2_w 204, 3) := by decide +kernel
theorem dX10_isOwn_29 : decode mX10_isOwn.2.1 29 = .ok (.lcmp, 1) := by decide +kernel
theorem dX10_isOwn_30 : decode mX10_isOwn.2.1 30 = .ok (.ifCond .eq 190, 3) := by decide +kernel
theorem dX10_isOwn_33 : decode mX10_isOwn.2.1 33 = .ok (.aload_n 0, 1) := by decide +kernel
theorem dX10_isOwn_34 : decode mX10_isOwn.2.1 34 = .ok (.getfield 177, 3) := by decide +kernel
theorem dX10_isOwn_37 : decode mX10_isOwn.2.1 37 = .ok (.ldc2_w 206, 3) := by decide +kernel
theorem dX10_isOwn_40 : decode mX10_isOwn.2.1 40 = .ok (.lcmp, 1) := by decide +kernel
theorem dX10_isOwn_41 : decode mX10_isOwn.2.1 41 = .ok (.ifCond .eq 179, 3) := by decide +kernel
theorem dX10_isOwn_44 : decode mX10_isOwn.2.1 44 = .ok (.aload_n 0, 1) := by decide +kernel
theorem dX10_isOwn_45 : decode mX10_isOwn.2.1 45 = .ok (.getfield 177, 3) := by decide +kernel
theorem dX10_isOwn_48 : decode mX10_isOwn.2.1 48 = .ok (.ldc2_w 208, 3) := by decide +kernel
theorem dX10_isOwn_51 : decode mX10_isOwn.2.1 51 = .ok (.lcmp, 1) := by decide +kernel
theorem dX10_isOwn_52 : decode mX10_isOwn.2.1 52 = .ok (.ifCond .eq 168, 3) := by decide +kernel
theorem dX10_isOwn_55 : decode mX10_isOwn.2.1 55 = .ok (.aload_n 0, 1) := by decide +kernel
theorem dX10_isOwn_56 : decode mX10_isOwn.2.1 56 = .ok (.getfield 177, 3) := by decide +kernel
theorem dX10_isOwn_59 : decode mX10_isOwn.2.1 59 = .ok (.ldc2_w 210, 3) := by decide +kernel
theorem dX10_isOwn_62 : decode mX10_isOwn.2.1 62 = .ok (.lcmp, 1) := by decide +kernel
theorem dX10_isOwn_63 : decode mX10_isOwn.2.1 63 = .ok (.ifCond .eq 157, 3) := by decide +kernel
theorem dX10_isOwn_66 : decode mX10_isOwn.2.1 66 = .ok (.aload_n 0, 1) := by decide +kernel
theorem dX10_isOwn_67 : decode mX10_isOwn.2.1 67 = .ok (.getfield 177, 3) := by decide +kernel
theorem dX10_isOwn_70 : decode mX10_isOwn.2.1 70 = .ok (.ldc2_w 212, 3) := by decide +kernel
theorem dX10_isOwn_73 : decode mX10_isOwn.2.1 73 = .ok (.lcmp, 1) := by decide +kernel
theorem dX10_isOwn_74 : decode mX10_isOwn.2.1 74 = .ok (.ifCond .eq 146, 3) := by decide +kernel
theorem dX10_isOwn_77 : decode mX10_isOwn.2.1 77 = .ok (.aload_n 0, 1) := by decide +kernel
theorem dX10_isOwn_78 : decode mX10_isOwn.2.1 78 = .ok (.getfield 177, 3) := by decide +kernel
theorem dX10_isOwn_81 : decode mX10_isOwn.2.1 81 = .ok (.ldc2_w 214, 3) := by decide +kernel
theorem dX10_isOwn_84 : decode mX10_isOwn.2.1 84 = .ok (.lcmp, 1) := by decide +kernel
theorem dX10_isOwn_85 : decode mX10_isOwn.2.1 85 = .ok (.ifCond .eq 135, 3) := by decide +kernel
theorem dX10_isOwn_88 : decode mX10_isOwn.2.1 88 = .ok (.aload_n 0, 1) := by decide +kernel
theorem dX10_isOwn_89 : decode mX10_isOwn.2.1 89 = .ok (.getfield 177, 3) := by decide +kernel
theorem dX10_isOwn_92 : decode mX10_isOwn.2.1 92 = .ok (.ldc2_w 216, 3) := by decide +kernel
theorem dX10_isOwn_95 : decode mX10_isOwn.2.1 95 = .ok (.lcmp, 1) := by decide +kernel
theorem dX10_isOwn_96 : decode mX10_isOwn.2.1 96 = .ok (.ifCond .eq 124, 3) := by decide +kernel
theorem dX10_isOwn_99 : decode mX10_isOwn.2.1 99 = .ok (.aload_n 0, 1) := by decide +kernel
theorem dX10_isOwn_100 : decode mX10_isOwn.2.1 100 = .ok (.getfield 177, 3) := by decide +kernel
theorem dX10_isOwn_103 : decode mX10_isOwn.2.1 103 = .ok (.ldc2_w 218, 3) := by decide +kernel
theorem dX10_isOwn_106 : decode mX10_isOwn.2.1 106 = .ok (.lcmp, 1) := by decide +kernel
theorem dX10_isOwn_107 : decode mX10_isOwn.2.1 107 = .ok (.ifCond .eq 113, 3) := by decide +kernel
theorem dX10_isOwn_110 : decode mX10_isOwn.2.1 110 = .ok (.aload_n 0, 1) := by decide +kernel
theorem dX10_isOwn_111 : decode mX10_isOwn.2.1 111 = .ok (.getfield 177, 3) := by decide +kernel
theorem dX10_isOwn_114 : decode mX10_isOwn.2.1 114 = .ok (.ldc2_w 220, 3) := by decide +kernel
theorem dX10_isOwn_117 : decode mX10_isOwn.2.1 117 = .ok (.lcmp, 1) := by decide +kernel
theorem dX10_isOwn_118 : decode mX10_isOwn.2.1 118 = .ok (.ifCond .eq 102, 3) := by decide +kernel
theorem dX10_isOwn_121 : decode mX10_isOwn.2.1 121 = .ok (.aload_n 0, 1) := by decide +kernel
theorem dX10_isOwn_122 : decode mX10_isOwn.2.1 122 = .ok (.getfield 177, 3) := by decide +kernel
theorem dX10_isOwn_125 : decode mX10_isOwn.2.1 125 = .ok (.ldc2_w 222, 3) := by decide +kernel
theorem dX10_isOwn_128 : decode mX10_isOwn.2.1 128 = .ok (.lcmp, 1) := by decide +kernel
theorem dX10_isOwn_129 : decode mX10_isOwn.2.1 129 = .ok (.ifCond .eq 91, 3) := by decide +kernel
theorem dX10_isOwn_132 : decode mX10_isOwn.2.1 132 = .ok (.aload_n 0, 1) := by decide +kernel
theorem dX10_isOwn_133 : decode mX10_isOwn.2.1 133 = .ok (.getfield 177, 3) := by decide +kernel
theorem dX10_isOwn_136 : decode mX10_isOwn.2.1 136 = .ok (.ldc2_w 224, 3) := by decide +kernel
theorem dX10_isOwn_139 : decode mX10_isOwn.2.1 139 = .ok (.lcmp, 1) := by decide +kernel
theorem dX10_isOwn_140 : decode mX10_isOwn.2.1 140 = .ok (.ifCond .eq 80, 3) := by decide +kernel
theorem dX10_isOwn_143 : decode mX10_isOwn.2.1 143 = .ok (.aload_n 0, 1) := by decide +kernel
theorem dX10_isOwn_144 : decode mX10_isOwn.2.1 144 = .ok (.getfield 177, 3) := by decide +kernel
theorem dX10_isOwn_147 : decode mX10_isOwn.2.1 147 = .ok (.ldc2_w 226, 3) := by decide +kernel
theorem dX10_isOwn_150 : decode mX10_isOwn.2.1 150 = .ok (.lcmp, 1) := by decide +kernel
theorem dX10_isOwn_151 : decode mX10_isOwn.2.1 151 = .ok (.ifCond .eq 69, 3) := by decide +kernel
theorem dX10_isOwn_154 : decode mX10_isOwn.2.1 154 = .ok (.aload_n 0, 1) := by decide +kernel
theorem dX10_isOwn_155 : decode mX10_isOwn.2.1 155 = .ok (.getfield 177, 3) := by decide +kernel
theorem dX10_isOwn_158 : decode mX10_isOwn.2.1 158 = .ok (.ldc2_w 228, 3) := by decide +kernel
theorem dX10_isOwn_161 : decode mX10_isOwn.2.1 161 = .ok (.lcmp, 1) := by decide +kernel
theorem dX10_isOwn_162 : decode mX10_isOwn.2.1 162 = .ok (.ifCond .eq 58, 3) := by decide +kernel
theorem dX10_isOwn_165 : decode mX10_isOwn.2.1 165 = .ok (.aload_n 0, 1) := by decide +kernel
theorem dX10_isOwn_166 : decode mX10_isOwn.2.1 166 = .ok (.getfield 177, 3) := by decide +kernel
theorem dX10_isOwn_169 : decode mX10_isOwn.2.1 169 = .ok (.ldc2_w 230, 3) := by decide +kernel
theorem dX10_isOwn_172 : decode mX10_isOwn.2.1 172 = .ok (.lcmp, 1) := by decide +kernel
theorem dX10_isOwn_173 : decode mX10_isOwn.2.1 173 = .ok (.ifCond .eq 47, 3) := by decide +kernel
theorem dX10_isOwn_176 : decode mX10_isOwn.2.1 176 = .ok (.aload_n 0, 1) := by decide +kernel
theorem dX10_isOwn_177 : decode mX10_isOwn.2.1 177 = .ok (.getfield 177, 3) := by decide +kernel
theorem dX10_isOwn_180 : decode mX10_isOwn.2.1 180 = .ok (.ldc2_w 232, 3) := by decide +kernel
theorem dX10_isOwn_183 : decode mX10_isOwn.2.1 183 = .ok (.lcmp, 1) := by decide +kernel
theorem dX10_isOwn_184 : decode mX10_isOwn.2.1 184 = .ok (.ifCond .eq 36, 3) := by decide +kernel
theorem dX10_isOwn_187 : decode mX10_isOwn.2.1 187 = .ok (.aload_n 0, 1) := by decide +kernel
theorem dX10_isOwn_188 : decode mX10_isOwn.2.1 188 = .ok (.getfield 177, 3) := by decide +kernel
theorem dX10_isOwn_191 : decode mX10_isOwn.2.1 191 = .ok (.ldc2_w 234, 3) := by decide +kernel
theorem dX10_isOwn_194 : decode mX10_isOwn.2.1 194 = .ok (.lcmp, 1) := by decide +kernel
theorem dX10_isOwn_195 : decode mX10_isOwn.2.1 195 = .ok (.ifCond .eq 25, 3) := by decide +kernel
theorem dX10_isOwn_198 : decode mX10_isOwn.2.1 198 = .ok (.aload_n 0, 1) := by decide +kernel
theorem dX10_isOwn_199 : decode mX10_isOwn.2.1 199 = .ok (.getfield 177, 3) := by decide +kernel
theorem dX10_isOwn_202 : decode mX10_isOwn.2.1 202 = .ok (.ldc2_w 236, 3) := by decide +kernel
theorem dX10_isOwn_205 : decode mX10_isOwn.2.1 205 = .ok (.lcmp, 1) := by decide +kernel
theorem dX10_isOwn_206 : decode mX10_isOwn.2.1 206 = .ok (.ifCond .eq 14, 3) := by decide +kernel
theorem dX10_isOwn_209 : decode mX10_isOwn.2.1 209 = .ok (.aload_n 0, 1) := by decide +kernel
theorem dX10_isOwn_210 : decode mX10_isOwn.2.1 210 = .ok (.getfield 177, 3) := by decide +kernel
theorem dX10_isOwn_213 : decode mX10_isOwn.2.1 213 = .ok (.ldc2_w 238, 3) := by decide +kernel
theorem dX10_isOwn_216 : decode mX10_isOwn.2.1 216 = .ok (.lcmp, 1) := by decide +kernel
theorem dX10_isOwn_217 : decode mX10_isOwn.2.1 217 = .ok (.ifCond .ne 7, 3) := by decide +kernel
theorem dX10_isOwn_220 : decode mX10_isOwn.2.1 220 = .ok (.iconst 1, 1) := by decide +kernel
theorem dX10_isOwn_221 : decode mX10_isOwn.2.1 221 = .ok (.goto 4, 3) := by decide +kernel
theorem dX10_isOwn_224 : decode mX10_isOwn.2.1 224 = .ok (.iconst 0, 1) := by decide +kernel
theorem dX10_isOwn_225 : decode mX10_isOwn.2.1 225 = .ok (.ireturn, 1) := by decide +kernel
abbrev pX10_isOwn (w : pw_W) : Prop := ((pw_L w 61 9) = 123581014175598) ∨ (((pw_L w 61 9) = 1718186605) ∨ (((pw_L w 61 9) = 119182682386035) ∨ (((pw_L w 61 9) = 465826574451) ∨ (((pw_L w 61 9) = 1835361652) ∨ (((pw_L w 61 9) = 28526) ∨ (((pw_L w 61 9) = 27710370737579378) ∨ (((pw_L w 61 9) = 427071335539) ∨ (((pw_L w 61 9) = 491496238692) ∨ (((pw_L w 61 9) = 6448484) ∨ (((pw_L w 61 9) = 112615677388147) ∨ (((pw_L w 61 9) = 1685217655) ∨ (((pw_L w 61 9) = 7305070) ∨ (((pw_L w 61 9) = 478694368626) ∨ (((pw_L w 61 9) = 1936683621) ∨ (((pw_L w 61 9) = 6578553) ∨ (((pw_L w 61 9) = 2003133803) ∨ (((pw_L w 61 9) = 6385252) ∨ (((pw_L w 61 9) = 28530) ∨ ((pw_L w 61 9) = 7237492)))))))))))))))))))
theorem sX10_isOwn {E : px_E} {d : Nat} {w : pw_W} {Q : Option Value → pw_W → Prop} {t : ct_T} (hw : w.1 = cs t)   (k : Q (some (.int (jb (pX10_isOwn w)))) w) : px_Call E (d + 1) 0 0 mX10_isOwn [.ref 61] w Q := by
  refine px_enter (k := 0) (ls := [.ref 61]) (by decide) (Nat.le_of_ble_eq_true rfl) rfl (px_forget (ls' := [.ref 61]) ?_ ⟨Or.inr rfl, trivial⟩)
  refine px_aload_n dX10_isOwn_0 rfl rfl ?_
  refine px_getL dX10_isOwn_1 fr_10_177 rfl (px_sh1 hw sh_61) ?_
  refine px_ldc2 dX10_isOwn_4 (px_in7 29 rfl rfl) ?_
  refine px_lcmp_eq (tgt := 220) dX10_isOwn_7 dX10_isOwn_8 (by decide) (fun h1 => ?_) (fun h1 => ?_)
  ·
    refine px_iconst dX10_isOwn_220 ic_1 ?_
    refine px_goto (tgt := 225) dX10_isOwn_221 (by decide) ?_
    exact px_ireturn dX10_isOwn_225 rfl (by decide) (by rw [jb_t (p := pX10_isOwn w) (Or.inl h1)] at k; exact k)
  ·
    refine px_aload_n dX10_isOwn_11 rfl rfl ?_
    refine px_getL dX10_isOwn_12 fr_10_177 rfl (px_sh1 hw sh_61) ?_
    refine px_ldc2 dX10_isOwn_15 (px_in7 50 rfl rfl) ?_
    refine px_lcmp_eq (tgt := 220) dX10_isOwn_18 dX10_isOwn_19 (by decide) (fun h2 => ?_) (fun h2 => ?_)
    ·
      refine px_iconst dX10_isOwn_220 ic_1 ?_
      refine px_goto (tgt := 225) dX10_isOwn_221 (by decide) ?_
      exact px_ireturn dX10_isOwn_225 rfl (by decide) (by rw [jb_t (p := pX10_isOwn w) (Or.inr (Or.inl h2))] at k; exact k)
    ·
      refine px_aload_n dX10_isOwn_22 rfl rfl ?_
      refine px_getL dX10_isOwn_23 fr_10_177 rfl (px_sh1 hw sh_61) ?_
      refine px_ldc2 dX10_isOwn_26 (px_in7 51 rfl rfl) ?_
      refine px_lcmp_eq (tgt := 220) dX10_isOwn_29 dX10_isOwn_30 (by decide) (fun h3 => ?_) (fun h3 => ?_)
      ·
        refine px_iconst dX10_isOwn_220 ic_1 ?_
        refine px_goto (tgt := 225) dX10_isOwn_221 (by decide) ?_
        exact px_ireturn dX10_isOwn_225 rfl (by decide) (by rw [jb_t (p := pX10_isOwn w) (Or.inr (Or.inr (Or.inl h3)))] at k; exact k)
      ·
        refine px_aload_n dX10_isOwn_33 rfl rfl ?_
        refine px_getL dX10_isOwn_34 fr_10_177 rfl (px_sh1 hw sh_61) ?_
        refine px_ldc2 dX10_isOwn_37 (px_in7 52 rfl rfl) ?_
        refine px_lcmp_eq (tgt := 220) dX10_isOwn_40 dX10_isOwn_41 (by decide) (fun h4 => ?_) (fun h4 => ?_)
        ·
          refine px_iconst dX10_isOwn_220 ic_1 ?_
          refine px_goto (tgt := 225) dX10_isOwn_221 (by decide) ?_
          exact px_ireturn dX10_isOwn_225 rfl (by decide) (by rw [jb_t (p := pX10_isOwn w) (Or.inr (Or.inr (Or.inr (Or.inl h4))))] at k; exact k)
        ·
          refine px_aload_n dX10_isOwn_44 rfl rfl ?_
          refine px_getL dX10_isOwn_45 fr_10_177 rfl (px_sh1 hw sh_61) ?_
          refine px_ldc2 dX10_isOwn_48 (px_in7 53 rfl rfl) ?_
          refine px_lcmp_eq (tgt := 220) dX10_isOwn_51 dX10_isOwn_52 (by decide) (fun h5 => ?_) (fun h5 => ?_)
          ·
            refine px_iconst dX10_isOwn_220 ic_1 ?_
            refine px_goto (tgt := 225) dX10_isOwn_221 (by decide) ?_
            exact px_ireturn dX10_isOwn_225 rfl (by decide) (by rw [jb_t (p := pX10_isOwn w) (Or.inr (Or.inr (Or.inr (Or.inr (Or.inl h5)))))] at k; exact k)
          ·
            refine px_aload_n dX10_isOwn_55 rfl rfl ?_
            refine px_getL dX10_isOwn_56 fr_10_177 rfl (px_sh1 hw sh_61) ?_
            refine px_ldc2 dX10_isOwn_59 (px_in7 54 rfl rfl) ?_
            refine px_lcmp_eq (tgt := 220) dX10_isOwn_62 dX10_isOwn_63 (by decide) (fun h6 => ?_) (fun h6 => ?_)
            ·
              refine px_iconst dX10_isOwn_220 ic_1 ?_
              refine px_goto (tgt := 225) dX10_isOwn_221 (by decide) ?_
              exact px_ireturn dX10_isOwn_225 rfl (by decide) (by rw [jb_t (p := pX10_isOwn w) (Or.inr (Or.inr (Or.inr (Or.inr (Or.inr (Or.inl h6))))))] at k; exact k)
            ·
              refine px_aload_n dX10_isOwn_66 rfl rfl ?_
              refine px_getL dX10_isOwn_67 fr_10_177 rfl (px_sh1 hw sh_61) ?_
              refine px_ldc2 dX10_isOwn_70 (px_in7 55 rfl rfl) ?_
              refine px_lcmp_eq (tgt := 220) dX10_isOwn_73 dX10_isOwn_74 (by decide) (fun h7 => ?_) (fun h7 => ?_)
              ·
                refine px_iconst dX10_isOwn_220 ic_1 ?_
                refine px_goto (tgt := 225) dX10_isOwn_221 (by decide) ?_
                exact px_ireturn dX10_isOwn_225 rfl (by decide) (by rw [jb_t (p := pX10_isOwn w) (Or.inr (Or.inr (Or.inr (Or.inr (Or.inr (Or.inr (Or.inl h7)))))))] at k; exact k)
              ·
                refine px_aload_n dX10_isOwn_77 rfl rfl ?_
                refine px_getL dX10_isOwn_78 fr_10_177 rfl (px_sh1 hw sh_61) ?_
                refine px_ldc2 dX10_isOwn_81 (px_in7 56 rfl rfl) ?_
                refine px_lcmp_eq (tgt := 220) dX10_isOwn_84 dX10_isOwn_85 (by decide) (fun h8 => ?_) (fun h8 => ?_)
                ·
                  refine px_iconst dX10_isOwn_220 ic_1 ?_
                  refine px_goto (tgt := 225) dX10_isOwn_221 (by decide) ?_
                  exact px_ireturn dX10_isOwn_225 rfl (by decide) (by rw [jb_t (p := pX10_isOwn w) (Or.inr (Or.inr (Or.inr (Or.inr (Or.inr (Or.inr (Or.inr (Or.inl h8))))))))] at k; exact k)
                ·
                  refine px_aload_n dX10_isOwn_88 rfl rfl ?_
                  refine px_getL dX10_isOwn_89 fr_10_177 rfl (px_sh1 hw sh_61) ?_
                  refine px_ldc2 dX10_isOwn_92 (px_in7 57 rfl rfl) ?_
                  refine px_lcmp_eq (tgt := 220) dX10_isOwn_95 dX10_isOwn_96 (by decide) (fun h9 => ?_) (fun h9 => ?_)
                  ·
                    refine px_iconst dX10_isOwn_220 ic_1 ?_
                    refine px_goto (tgt := 225) dX10_isOwn_221 (by decide) ?_
                    exact px_ireturn dX10_isOwn_225 rfl (by decide) (by rw [jb_t (p := pX10_isOwn w) (Or.inr (Or.inr (Or.inr (Or.inr (Or.inr (Or.inr (Or.inr (Or.inr (Or.inl h9)))))))))] at k; exact k)
                  ·
                    refine px_aload_n dX10_isOwn_99 rfl rfl ?_
                    refine px_getL dX10_isOwn_100 fr_10_177 rfl (px_sh1 hw sh_61) ?_
                    refine px_ldc2 dX10_isOwn_103 (px_in7 58 rfl rfl) ?_
                    refine px_lcmp_eq (tgt := 220) dX10_isOwn_106 dX10_isOwn_107 (by decide) (fun h10 => ?_) (fun h10 => ?_)
                    ·
                      refine px_iconst dX10_isOwn_220 ic_1 ?_
                      refine px_goto (tgt := 225) dX10_isOwn_221 (by decide) ?_
                      exact px_ireturn dX10_isOwn_225 rfl (by decide) (by rw [jb_t (p := pX10_isOwn w) (Or.inr (Or.inr (Or.inr (Or.inr (Or.inr (Or.inr (Or.inr (Or.inr (Or.inr (Or.inl h10))))))))))] at k; exact k)
                    ·
                      refine px_aload_n dX10_isOwn_110 rfl rfl ?_
                      refine px_getL dX10_isOwn_111 fr_10_177 rfl (px_sh1 hw sh_61) ?_
                      refine px_ldc2 dX10_isOwn_114 (px_in7 59 rfl rfl) ?_
                      refine px_lcmp_eq (tgt := 220) dX10_isOwn_117 dX10_isOwn_118 (by decide) (fun h11 => ?_) (fun h11 => ?_)
                      ·
                        refine px_iconst dX10_isOwn_220 ic_1 ?_
                        refine px_goto (tgt := 225) dX10_isOwn_221 (by decide) ?_
                        exact px_ireturn dX10_isOwn_225 rfl (by decide) (by rw [jb_t (p := pX10_isOwn w) (Or.inr (Or.inr (Or.inr (Or.inr (Or.inr (Or.inr (Or.inr (Or.inr (Or.inr (Or.inr (Or.inl h11)))))))))))] at k; exact k)
                      ·
                        refine px_aload_n dX10_isOwn_121 rfl rfl ?_
                        refine px_getL dX10_isOwn_122 fr_10_177 rfl (px_sh1 hw sh_61) ?_
                        refine px_ldc2 dX10_isOwn_125 (px_in7 60 rfl rfl) ?_
                        refine px_lcmp_eq (tgt := 220) dX10_isOwn_128 dX10_isOwn_129 (by decide) (fun h12 => ?_) (fun h12 => ?_)
                        ·
                          refine px_iconst dX10_isOwn_220 ic_1 ?_
                          refine px_goto (tgt := 225) dX10_isOwn_221 (by decide) ?_
                          exact px_ireturn dX10_isOwn_225 rfl (by decide) (by rw [jb_t (p := pX10_isOwn w) (Or.inr (Or.inr (Or.inr (Or.inr (Or.inr (Or.inr (Or.inr (Or.inr (Or.inr (Or.inr (Or.inr (Or.inl h12))))))))))))] at k; exact k)
                        ·
                          refine px_aload_n dX10_isOwn_132 rfl rfl ?_
                          refine px_getL dX10_isOwn_133 fr_10_177 rfl (px_sh1 hw sh_61) ?_
                          refine px_ldc2 dX10_isOwn_136 (px_in7 61 rfl rfl) ?_
                          refine px_lcmp_eq (tgt := 220) dX10_isOwn_139 dX10_isOwn_140 (by decide) (fun h13 => ?_) (fun h13 => ?_)
                          ·
                            refine px_iconst dX10_isOwn_220 ic_1 ?_
                            refine px_goto (tgt := 225) dX10_isOwn_221 (by decide) ?_
                            exact px_ireturn dX10_isOwn_225 rfl (by decide) (by rw [jb_t (p := pX10_isOwn w) (Or.inr (Or.inr (Or.inr (Or.inr (Or.inr (Or.inr (Or.inr (Or.inr (Or.inr (Or.inr (Or.inr (Or.inr (Or.inl h13)))))))))))))] at k; exact k)
                          ·
                            refine px_aload_n dX10_isOwn_143 rfl rfl ?_
                            refine px_getL dX10_isOwn_144 fr_10_177 rfl (px_sh1 hw sh_61) ?_
                            refine px_ldc2 dX10_isOwn_147 (px_in7 62 rfl rfl) ?_
                            refine px_lcmp_eq (tgt := 220) dX10_isOwn_150 dX10_isOwn_151 (by decide) (fun h14 => ?_) (fun h14 => ?_)
                            ·
                              refine px_iconst dX10_isOwn_220 ic_1 ?_
                              refine px_goto (tgt := 225) dX10_isOwn_221 (by decide) ?_
                              exact px_ireturn dX10_isOwn_225 rfl (by decide) (by rw [jb_t (p := pX10_isOwn w) (Or.inr (Or.inr (Or.inr (Or.inr (Or.inr (Or.inr (Or.inr (Or.inr (Or.inr (Or.inr (Or.inr (Or.inr (Or.inr (Or.inl h14))))))))))))))] at k; exact k)
                            ·
                              refine px_aload_n dX10_isOwn_154 rfl rfl ?_
                              refine px_getL dX10_isOwn_155 fr_10_177 rfl (px_sh1 hw sh_61) ?_
                              refine px_ldc2 dX10_isOwn_158 (px_in7 63 rfl rfl) ?_
                              refine px_lcmp_eq (tgt := 220) dX10_isOwn_161 dX10_isOwn_162 (by decide) (fun h15 => ?_) (fun h15 => ?_)
                              ·
                                refine px_iconst dX10_isOwn_220 ic_1 ?_
                                refine px_goto (tgt := 225) dX10_isOwn_221 (by decide) ?_
                                exact px_ireturn dX10_isOwn_225 rfl (by decide) (by rw [jb_t (p := pX10_isOwn w) (Or.inr (Or.inr (Or.inr (Or.inr (Or.inr (Or.inr (Or.inr (Or.inr (Or.inr (Or.inr (Or.inr (Or.inr (Or.inr (Or.inr (Or.inl h15)))))))))))))))] at k; exact k)
                              ·
                                refine px_aload_n dX10_isOwn_165 rfl rfl ?_
                                refine px_getL dX10_isOwn_166 fr_10_177 rfl (px_sh1 hw sh_61) ?_
                                refine px_ldc2 dX10_isOwn_169 (px_in7 64 rfl rfl) ?_
                                refine px_lcmp_eq (tgt := 220) dX10_isOwn_172 dX10_isOwn_173 (by decide) (fun h16 => ?_) (fun h16 => ?_)
                                ·
                                  refine px_iconst dX10_isOwn_220 ic_1 ?_
                                  refine px_goto (tgt := 225) dX10_isOwn_221 (by decide) ?_
                                  exact px_ireturn dX10_isOwn_225 rfl (by decide) (by rw [jb_t (p := pX10_isOwn w) (Or.inr (Or.inr (Or.inr (Or.inr (Or.inr (Or.inr (Or.inr (Or.inr (Or.inr (Or.inr (Or.inr (Or.inr (Or.inr (Or.inr (Or.inr (Or.inl h16))))))))))))))))] at k; exact k)
                                ·
                                  refine px_aload_n dX10_isOwn_176 rfl rfl ?_
                                  refine px_getL dX10_isOwn_177 fr_10_177 rfl (px_sh1 hw sh_61) ?_
                                  refine px_ldc2 dX10_isOwn_180 (px_in7 65 rfl rfl) ?_
                                  refine px_lcmp_eq (tgt := 220) dX10_isOwn_183 dX10_isOwn_184 (by decide) (fun h17 => ?_) (fun h17 => ?_)
                                  ·
                                    refine px_iconst dX10_isOwn_220 ic_1 ?_
                                    refine px_goto (tgt := 225) dX10_isOwn_221 (by decide) ?_
                                    exact px_ireturn dX10_isOwn_225 rfl (by decide) (by rw [jb_t (p := pX10_isOwn w) (Or.inr (Or.inr (Or.inr (Or.inr (Or.inr (Or.inr (Or.inr (Or.inr (Or.inr (Or.inr (Or.inr (Or.inr (Or.inr (Or.inr (Or.inr (Or.inr (Or.inl h17)))))))))))))))))] at k; exact k)
                                  ·
                                    refine px_aload_n dX10_isOwn_187 rfl rfl ?_
                                    refine px_getL dX10_isOwn_188 fr_10_177 rfl (px_sh1 hw sh_61) ?_
                                    refine px_ldc2 dX10_isOwn_191 (px_in7 66 rfl rfl) ?_
                                    refine px_lcmp_eq (tgt := 220) dX10_isOwn_194 dX10_isOwn_195 (by decide) (fun h18 => ?_) (fun h18 => ?_)
                                    ·
                                      refine px_iconst dX10_isOwn_220 ic_1 ?_
                                      refine px_goto (tgt := 225) dX10_isOwn_221 (by decide) ?_
                                      exact px_ireturn dX10_isOwn_225 rfl (by decide) (by rw [jb_t (p := pX10_isOwn w) (Or.inr (Or.inr (Or.inr (Or.inr (Or.inr (Or.inr (Or.inr (Or.inr (Or.inr (Or.inr (Or.inr (Or.inr (Or.inr (Or.inr (Or.inr (Or.inr (Or.inr (Or.inl h18))))))))))))))))))] at k; exact k)
                                    ·
                                      refine px_aload_n dX10_isOwn_198 rfl rfl ?_
                                      refine px_getL dX10_isOwn_199 fr_10_177 rfl (px_sh1 hw sh_61) ?_
                                      refine px_ldc2 dX10_isOwn_202 (px_in7 67 rfl rfl) ?_
                                      refine px_lcmp_eq (tgt := 220) dX10_isOwn_205 dX10_isOwn_206 (by decide) (fun h19 => ?_) (fun h19 => ?_)
                                      ·
                                        refine px_iconst dX10_isOwn_220 ic_1 ?_
                                        refine px_goto (tgt := 225) dX10_isOwn_221 (by decide) ?_
                                        exact px_ireturn dX10_isOwn_225 rfl (by decide) (by rw [jb_t (p := pX10_isOwn w) (Or.inr (Or.inr (Or.inr (Or.inr (Or.inr (Or.inr (Or.inr (Or.inr (Or.inr (Or.inr (Or.inr (Or.inr (Or.inr (Or.inr (Or.inr (Or.inr (Or.inr (Or.inr (Or.inl h19)))))))))))))))))))] at k; exact k)
                                      ·
                                        refine px_aload_n dX10_isOwn_209 rfl rfl ?_
                                        refine px_getL dX10_isOwn_210 fr_10_177 rfl (px_sh1 hw sh_61) ?_
                                        refine px_ldc2 dX10_isOwn_213 (px_in7 68 rfl rfl) ?_
                                        refine px_lcmp_ne (tgt := 224) dX10_isOwn_216 dX10_isOwn_217 (by decide) (fun h20 => ?_) (fun h20 => ?_)
                                        ·
                                          refine px_iconst dX10_isOwn_224 ic_0 ?_
                                          exact px_ireturn dX10_isOwn_225 rfl (by decide) (by rw [jb_f (p := pX10_isOwn w) (fun z => z.elim h1 (fun z => z.elim h2 (fun z => z.elim h3 (fun z => z.elim h4 (fun z => z.elim h5 (fun z => z.elim h6 (fun z => z.elim h7 (fun z => z.elim h8 (fun z => z.elim h9 (fun z => z.elim h10 (fun z => z.elim h11 (fun z => z.elim h12 (fun z => z.elim h13 (fun z => z.elim h14 (fun z => z.elim h15 (fun z => z.elim h16 (fun z => z.elim h17 (fun z => z.elim h18 (fun z => z.elim h19 h20)))))))))))))))))))] at k; exact k)
                                        ·
                                          refine px_iconst dX10_isOwn_220 ic_1 ?_
                                          refine px_goto (tgt := 225) dX10_isOwn_221 (by decide) ?_
                                          exact px_ireturn dX10_isOwn_225 rfl (by decide) (by rw [jb_t (p := pX10_isOwn w) (Or.inr (Or.inr (Or.inr (Or.inr (Or.inr (Or.inr (Or.inr (Or.inr (Or.inr (Or.inr (Or.inr (Or.inr (Or.inr (Or.inr (Or.inr (Or.inr (Or.inr (Or.inr (Or.inr h20)))))))))))))))))))] at k; exact k)
theorem dX10_isName_0 : decode mX10_isName.2.1 0 = .ok (.aload_n 0, 1) := by decide +kernel
theorem dX10_isName_1 : decode mX10_isName.2.1 1 = .ok (.getfield 184, 3) := by decide +kernel
theorem dX10_isName_4 : decode mX10_isName.2.1 4 = .ok (.iconst 1, 1) := by decide +kernel
theorem dX10_isName_5 : decode mX10_isName.2.1 5 = .ok (.if_icmp .ne 14, 3) := by decide +kernel
theorem dX10_isName_8 : decode mX10_isName.2.1 8 = .ok (.aload_n 0, 1) := by decide +kernel
theorem dX10_isName_9 : decode mX10_isName.2.1 9 = .ok (.invokevirtual 240, 3) := by decide +kernel
theorem dX10_isName_12 : decode mX10_isName.2.1 12 = .ok (.ifCond .ne 7, 3) := by decide +kernel
theorem dX10_isName_15 : decode mX10_isName.2.1 15 = .ok (.iconst 1, 1) := by decide +kernel
theorem dX10_isName_16 : decode mX10_isName.2.1 16 = .ok (.goto 4, 3) := by decide +kernel
theorem dX10_isName_19 : decode mX10_isName.2.1 19 = .ok (.iconst 0, 1) := by decide +kernel
theorem dX10_isName_20 : decode mX10_isName.2.1 20 = .ok (.ireturn, 1) := by decide +kernel
abbrev pX10_isName (w : pw_W) : Prop := ((pw_I w 61 6) = 1) ∧ (¬ ((pX10_isOwn w)))
theorem sX10_isName {E : px_E} {d : Nat} {w : pw_W} {Q : Option Value → pw_W → Prop} {t : ct_T} (hw : w.1 = cs t)   (k : Q (some (.int (jb (pX10_isName w)))) w) : px_Call E (d + 2) 0 0 mX10_isName [.ref 61] w Q := by
  refine px_enter (k := 0) (ls := [.ref 61]) (by decide) (Nat.le_of_ble_eq_true rfl) rfl (px_forget (ls' := [.ref 61]) ?_ ⟨Or.inr rfl, trivial⟩)
  refine px_aload_n dX10_isName_0 rfl rfl ?_
  refine px_getI dX10_isName_1 fr_10_184 rfl (px_sh1 hw sh_61) ?_
  refine px_iconst dX10_isName_4 ic_1 ?_
  refine px_icmp_ne (tgt := 19) dX10_isName_5 (by decide) (fun h1 => ?_) (fun h1 => ?_)
  ·
    refine px_iconst dX10_isName_19 ic_0 ?_
    exact px_ireturn dX10_isName_20 rfl (by decide) (by rw [jb_f (p := pX10_isName w) (fun z => h1 z.1)] at k; exact k)
  ·
    refine px_aload_n dX10_isName_8 rfl rfl ?_
    refine px_forget (ls' := [.null]) ?_ ⟨Or.inl rfl, trivial⟩
    refine px_callV (As := []) (st := []) (rc := 0) (rs := 0) (mc := 0) (ms := 0) dX10_isName_9 lk_10_240 (px_sh1 hw sh_61) rfl rfl (Nat.le_of_ble_eq_true rfl) (sX10_isOwn (w := w) hw ?_)
    show px_W E mX10_isName (d + 2) 0 0 12 [.null] [.int (jb (pX10_isOwn w))] w Q
    refine px_jb_ne (tgt := 19) dX10_isName_12 (by decide) (fun h2 => ?_) (fun h2 => ?_)
    ·
      refine px_iconst dX10_isName_19 ic_0 ?_
      exact px_ireturn dX10_isName_20 rfl (by decide) (by rw [jb_f (p := pX10_isName w) (fun z => (fun z => z h2) z.2)] at k; exact k)
    ·
      refine px_iconst dX10_isName_15 ic_1 ?_
      refine px_goto (tgt := 20) dX10_isName_16 (by decide) ?_
      exact px_ireturn dX10_isName_20 rfl (by decide) (by rw [jb_t (p := pX10_isName w) ⟨h1, h2⟩] at k; exact k)
theorem dX10_isPerson_0 : decode mX10_isPerson.2.1 0 = .ok (.iload_n 1, 1) := by decide +kernel
theorem dX10_isPerson_1 : decode mX10_isPerson.2.1 1 = .ok (.iconst 0, 1) := by decide +kernel
theorem dX10_isPerson_2 : decode mX10_isPerson.2.1 2 = .ok (.aload_n 0, 1) := by decide +kernel
theorem dX10_isPerson_3 : decode mX10_isPerson.2.1 3 = .ok (.getfield 404, 3) := by decide +kernel
theorem dX10_isPerson_6 : decode mX10_isPerson.2.1 6 = .ok (.iconst 1, 1) := by decide +kernel
theorem dX10_isPerson_7 : decode mX10_isPerson.2.1 7 = .ok (.isub, 1) := by decide +kernel
theorem dX10_isPerson_8 : decode mX10_isPerson.2.1 8 = .ok (.invokestatic 440, 3) := by decide +kernel
theorem dX10_isPerson_11 : decode mX10_isPerson.2.1 11 = .ok (.ireturn, 1) := by decide +kernel
abbrev pX10_isPerson (w : pw_W) (x1 : Int32) : Prop := pX10_isIn x1 0 ((pw_I w 61 51) - 1)
theorem sX10_isPerson {E : px_E} {d : Nat} {w : pw_W} {Q : Option Value → pw_W → Prop} {t : ct_T} (hw : w.1 = cs t) {x1 : Int32}   (k : Q (some (.int (jb (pX10_isPerson w x1)))) w) : px_Call E (d + 2) 0 0 mX10_isPerson [.ref 61, .int x1] w Q := by
  refine px_enter (k := 0) (ls := [.ref 61, .int x1]) (by decide) (Nat.le_of_ble_eq_true rfl) rfl (px_forget (ls' := [.ref 61, .int x1]) ?_ ⟨Or.inr rfl, Or.inr rfl, trivial⟩)
  refine px_iload_n dX10_isPerson_0 rfl rfl ?_
  refine px_iconst dX10_isPerson_1 ic_0 ?_
  refine px_aload_n dX10_isPerson_2 rfl rfl ?_
  refine px_getI dX10_isPerson_3 fr_10_404 rfl (px_sh1 hw sh_61) ?_
  refine px_iconst dX10_isPerson_6 ic_1 ?_
  refine px_isub dX10_isPerson_7 ?_
  refine px_forget (ls' := [.null, .null]) ?_ ⟨Or.inl rfl, Or.inl rfl, trivial⟩
  refine px_callS (As := [.int x1, .int 0, .int ((pw_I w 61 51) - 1)]) (st := []) (rc := 0) (rs := 0) (mc := 0) (ms := 0) dX10_isPerson_8 lk_10_440 rfl rfl (Nat.le_of_ble_eq_true rfl) (sX10_isIn ?_)
  show px_W E mX10_isPerson (d + 2) 0 0 11 [.null, .null] [.int (jb (pX10_isIn x1 0 ((pw_I w 61 51) - 1)))] w Q
  exact px_ireturn dX10_isPerson_11 rfl px_njb k
theorem dX10_isMeeting_0 : decode mX10_isMeeting.2.1 0 = .ok (.iload_n 1, 1) := by decide +kernel
theorem dX10_isMeeting_1 : decode mX10_isMeeting.2.1 1 = .ok (.iconst 0, 1) := by decide +kernel
theorem dX10_isMeeting_2 : decode mX10_isMeeting.2.1 2 = .ok (.aload_n 0, 1) := by decide +kernel
theorem dX10_isMeeting_3 : decode mX10_isMeeting.2.1 3 = .ok (.getfield 407, 3) := by decide +kernel
theorem dX10_isMeeting_6 : decode mX10_isMeeting.2.1 6 = .ok (.iconst 1, 1) := by decide +kernel
theorem dX10_isMeeting_7 : decode mX10_isMeeting.2.1 7 = .ok (.isub, 1) := by decide +kernel
theorem dX10_isMeeting_8 : decode mX10_isMeeting.2.1 8 = .ok (.invokestatic 440, 3) := by decide +kernel
theorem dX10_isMeeting_11 : decode mX10_isMeeting.2.1 11 = .ok (.ireturn, 1) := by decide +kernel
abbrev pX10_isMeeting (w : pw_W) (x1 : Int32) : Prop := pX10_isIn x1 0 ((pw_I w 61 52) - 1)
theorem sX10_isMeeting {E : px_E} {d : Nat} {w : pw_W} {Q : Option Value → pw_W → Prop} {t : ct_T} (hw : w.1 = cs t) {x1 : Int32}   (k : Q (some (.int (jb (pX10_isMeeting w x1)))) w) : px_Call E (d + 2) 0 0 mX10_isMeeting [.ref 61, .int x1] w Q := by
  refine px_enter (k := 0) (ls := [.ref 61, .int x1]) (by decide) (Nat.le_of_ble_eq_true rfl) rfl (px_forget (ls' := [.ref 61, .int x1]) ?_ ⟨Or.inr rfl, Or.inr rfl, trivial⟩)
  refine px_iload_n dX10_isMeeting_0 rfl rfl ?_
  refine px_iconst dX10_isMeeting_1 ic_0 ?_
  refine px_aload_n dX10_isMeeting_2 rfl rfl ?_
  refine px_getI dX10_isMeeting_3 fr_10_407 rfl (px_sh1 hw sh_61) ?_
  refine px_iconst dX10_isMeeting_6 ic_1 ?_
  refine px_isub dX10_isMeeting_7 ?_
  refine px_forget (ls' := [.null, .null]) ?_ ⟨Or.inl rfl, Or.inl rfl, trivial⟩
  refine px_callS (As := [.int x1, .int 0, .int ((pw_I w 61 52) - 1)]) (st := []) (rc := 0) (rs := 0) (mc := 0) (ms := 0) dX10_isMeeting_8 lk_10_440 rfl rfl (Nat.le_of_ble_eq_true rfl) (sX10_isIn ?_)
  show px_W E mX10_isMeeting (d + 2) 0 0 11 [.null, .null] [.int (jb (pX10_isIn x1 0 ((pw_I w 61 52) - 1)))] w Q
  exact px_ireturn dX10_isMeeting_11 rfl px_njb k
theorem dX10_isBrother_0 : decode mX10_isBrother.2.1 0 = .ok (.iload_n 1, 1) := by decide +kernel
theorem dX10_isBrother_1 : decode mX10_isBrother.2.1 1 = .ok (.iconst 0, 1) := by decide +kernel
theorem dX10_isBrother_2 : decode mX10_isBrother.2.1 2 = .ok (.aload_n 0, 1) := by decide +kernel
theorem dX10_isBrother_3 : decode mX10_isBrother.2.1 3 = .ok (.getfield 410, 3) := by decide +kernel
theorem dX10_isBrother_6 : decode mX10_isBrother.2.1 6 = .ok (.iconst 1, 1) := by decide +kernel
theorem dX10_isBrother_7 : decode mX10_isBrother.2.1 7 = .ok (.isub, 1) := by decide +kernel
theorem dX10_isBrother_8 : decode mX10_isBrother.2.1 8 = .ok (.invokestatic 440, 3) := by decide +kernel
theorem dX10_isBrother_11 : decode mX10_isBrother.2.1 11 = .ok (.ireturn, 1) := by decide +kernel
abbrev pX10_isBrother (w : pw_W) (x1 : Int32) : Prop := pX10_isIn x1 0 ((pw_I w 61 53) - 1)
theorem sX10_isBrother {E : px_E} {d : Nat} {w : pw_W} {Q : Option Value → pw_W → Prop} {t : ct_T} (hw : w.1 = cs t) {x1 : Int32}   (k : Q (some (.int (jb (pX10_isBrother w x1)))) w) : px_Call E (d + 2) 0 0 mX10_isBrother [.ref 61, .int x1] w Q := by
  refine px_enter (k := 0) (ls := [.ref 61, .int x1]) (by decide) (Nat.le_of_ble_eq_true rfl) rfl (px_forget (ls' := [.ref 61, .int x1]) ?_ ⟨Or.inr rfl, Or.inr rfl, trivial⟩)
  refine px_iload_n dX10_isBrother_0 rfl rfl ?_
  refine px_iconst dX10_isBrother_1 ic_0 ?_
  refine px_aload_n dX10_isBrother_2 rfl rfl ?_
  refine px_getI dX10_isBrother_3 fr_10_410 rfl (px_sh1 hw sh_61) ?_
  refine px_iconst dX10_isBrother_6 ic_1 ?_
  refine px_isub dX10_isBrother_7 ?_
  refine px_forget (ls' := [.null, .null]) ?_ ⟨Or.inl rfl, Or.inl rfl, trivial⟩
  refine px_callS (As := [.int x1, .int 0, .int ((pw_I w 61 53) - 1)]) (st := []) (rc := 0) (rs := 0) (mc := 0) (ms := 0) dX10_isBrother_8 lk_10_440 rfl rfl (Nat.le_of_ble_eq_true rfl) (sX10_isIn ?_)
  show px_W E mX10_isBrother (d + 2) 0 0 11 [.null, .null] [.int (jb (pX10_isIn x1 0 ((pw_I w 61 53) - 1)))] w Q
  exact px_ireturn dX10_isBrother_11 rfl px_njb k
theorem dX10_isFull_0 : decode mX10_isFull.2.1 0 = .ok (.aload_n 0, 1) := by decide +kernel
theorem dX10_isFull_1 : decode mX10_isFull.2.1 1 = .ok (.getfield 291, 3) := by decide +kernel
theorem dX10_isFull_4 : decode mX10_isFull.2.1 4 = .ok (.bipush 60, 2) := by decide +kernel
theorem dX10_isFull_6 : decode mX10_isFull.2.1 6 = .ok (.if_icmp .eq 12, 3) := by decide +kernel
theorem dX10_isFull_9 : decode mX10_isFull.2.1 9 = .ok (.aload_n 0, 1) := by decide +kernel
theorem dX10_isFull_10 : decode mX10_isFull.2.1 10 = .ok (.getfield 294, 3) := by decide +kernel
theorem dX10_isFull_13 : decode mX10_isFull.2.1 13 = .ok (.bipush 30, 2) := by decide +kernel
theorem dX10_isFull_15 : decode mX10_isFull.2.1 15 = .ok (.if_icmp .ne 7, 3) := by decide +kernel
theorem dX10_isFull_18 : decode mX10_isFull.2.1 18 = .ok (.iconst 1, 1) := by decide +kernel
theorem dX10_isFull_19 : decode mX10_isFull.2.1 19 = .ok (.goto 4, 3) := by decide +kernel
theorem dX10_isFull_22 : decode mX10_isFull.2.1 22 = .ok (.iconst 0, 1) := by decide +kernel
theorem dX10_isFull_23 : decode mX10_isFull.2.1 23 = .ok (.ireturn, 1) := by decide +kernel
abbrev pX10_isFull (w : pw_W) : Prop := ((pw_I w 61 20) = 60) ∨ ((pw_I w 61 22) = 30)
theorem sX10_isFull {E : px_E} {d : Nat} {w : pw_W} {Q : Option Value → pw_W → Prop} {t : ct_T} (hw : w.1 = cs t)   (k : Q (some (.int (jb (pX10_isFull w)))) w) : px_Call E (d + 1) 0 0 mX10_isFull [.ref 61] w Q := by
  refine px_enter (k := 0) (ls := [.ref 61]) (by decide) (Nat.le_of_ble_eq_true rfl) rfl (px_forget (ls' := [.ref 61]) ?_ ⟨Or.inr rfl, trivial⟩)
  refine px_aload_n dX10_isFull_0 rfl rfl ?_
  refine px_getI dX10_isFull_1 fr_10_291 rfl (px_sh1 hw sh_61) ?_
  refine px_bipush dX10_isFull_4 bp_60 ?_
  refine px_icmp_eq (tgt := 18) dX10_isFull_6 (by decide) (fun h1 => ?_) (fun h1 => ?_)
  ·
    refine px_iconst dX10_isFull_18 ic_1 ?_
    refine px_goto (tgt := 23) dX10_isFull_19 (by decide) ?_
    exact px_ireturn dX10_isFull_23 rfl (by decide) (by rw [jb_t (p := pX10_isFull w) (Or.inl h1)] at k; exact k)
  ·
    refine px_aload_n dX10_isFull_9 rfl rfl ?_
    refine px_getI dX10_isFull_10 fr_10_294 rfl (px_sh1 hw sh_61) ?_
    refine px_bipush dX10_isFull_13 bp_30 ?_
    refine px_icmp_ne (tgt := 22) dX10_isFull_15 (by decide) (fun h2 => ?_) (fun h2 => ?_)
    ·
      refine px_iconst dX10_isFull_22 ic_0 ?_
      exact px_ireturn dX10_isFull_23 rfl (by decide) (by rw [jb_f (p := pX10_isFull w) (fun z => z.elim h1 h2)] at k; exact k)
    ·
      refine px_iconst dX10_isFull_18 ic_1 ?_
      refine px_goto (tgt := 23) dX10_isFull_19 (by decide) ?_
      exact px_ireturn dX10_isFull_23 rfl (by decide) (by rw [jb_t (p := pX10_isFull w) (Or.inr h2)] at k; exact k)
theorem dX10_asked_0 : decode mX10_asked.2.1 0 = .ok (.aload_n 0, 1) := by decide +kernel
theorem dX10_asked_1 : decode mX10_asked.2.1 1 = .ok (.getfield 184, 3) := by decide +kernel
theorem dX10_asked_4 : decode mX10_asked.2.1 4 = .ok (.iconst 1, 1) := by decide +kernel
theorem dX10_asked_5 : decode mX10_asked.2.1 5 = .ok (.if_icmp .eq 5, 3) := by decide +kernel
theorem dX10_asked_8 : decode mX10_asked.2.1 8 = .ok (.iconst (-1), 1) := by decide +kernel
theorem dX10_asked_9 : decode mX10_asked.2.1 9 = .ok (.ireturn, 1) := by decide +kernel
theorem dX10_asked_10 : decode mX10_asked.2.1 10 = .ok (.aload_n 0, 1) := by decide +kernel
theorem dX10_asked_11 : decode mX10_asked.2.1 11 = .ok (.getfield 177, 3) := by decide +kernel
theorem dX10_asked_14 : decode mX10_asked.2.1 14 = .ok (.ldc2_w 224, 3) := by decide +kernel
theorem dX10_asked_17 : decode mX10_asked.2.1 17 = .ok (.lcmp, 1) := by decide +kernel
theorem dX10_asked_18 : decode mX10_asked.2.1 18 = .ok (.ifCond .ne 5, 3) := by decide +kernel
theorem dX10_asked_21 : decode mX10_asked.2.1 21 = .ok (.iconst 0, 1) := by decide +kernel
theorem dX10_asked_22 : decode mX10_asked.2.1 22 = .ok (.ireturn, 1) := by decide +kernel
theorem dX10_asked_23 : decode mX10_asked.2.1 23 = .ok (.aload_n 0, 1) := by decide +kernel
theorem dX10_asked_24 : decode mX10_asked.2.1 24 = .ok (.getfield 177, 3) := by decide +kernel
theorem dX10_asked_27 : decode mX10_asked.2.1 27 = .ok (.ldc2_w 226, 3) := by decide +kernel
theorem dX10_asked_30 : decode mX10_asked.2.1 30 = .ok (.lcmp, 1) := by decide +kernel
theorem dX10_asked_31 : decode mX10_asked.2.1 31 = .ok (.ifCond .ne 5, 3) := by decide +kernel
theorem dX10_asked_34 : decode mX10_asked.2.1 34 = .ok (.iconst 1, 1) := by decide +kernel
theorem dX10_asked_35 : decode mX10_asked.2.1 35 = .ok (.ireturn, 1) := by decide +kernel
theorem dX10_asked_36 : decode mX10_asked.2.1 36 = .ok (.aload_n 0, 1) := by decide +kernel
theorem dX10_asked_37 : decode mX10_asked.2.1 37 = .ok (.getfield 177, 3) := by decide +kernel
theorem dX10_asked_40 : decode mX10_asked.2.1 40 = .ok (.ldc2_w 228, 3) := by decide +kernel
theorem dX10_asked_43 : decode mX10_asked.2.1 43 = .ok (.lcmp, 1) := by decide +kernel
theorem dX10_asked_44 : decode mX10_asked.2.1 44 = .ok (.ifCond .ne 5, 3) := by decide +kernel
theorem dX10_asked_47 : decode mX10_asked.2.1 47 = .ok (.iconst 2, 1) := by decide +kernel
theorem dX10_asked_48 : decode mX10_asked.2.1 48 = .ok (.ireturn, 1) := by decide +kernel
theorem dX10_asked_49 : decode mX10_asked.2.1 49 = .ok (.aload_n 0, 1) := by decide +kernel
theorem dX10_asked_50 : decode mX10_asked.2.1 50 = .ok (.getfield 177, 3) := by decide +kernel
theorem dX10_asked_53 : decode mX10_asked.2.1 53 = .ok (.ldc2_w 230, 3) := by decide +kernel
theorem dX10_asked_56 : decode mX10_asked.2.1 56 = .ok (.lcmp, 1) := by decide +kernel
theorem dX10_asked_57 : decode mX10_asked.2.1 57 = .ok (.ifCond .ne 5, 3) := by decide +kernel
theorem dX10_asked_60 : decode mX10_asked.2.1 60 = .ok (.iconst 3, 1) := by decide +kernel
theorem dX10_asked_61 : decode mX10_asked.2.1 61 = .ok (.ireturn, 1) := by decide +kernel
theorem dX10_asked_62 : decode mX10_asked.2.1 62 = .ok (.aload_n 0, 1) := by decide +kernel
theorem dX10_asked_63 : decode mX10_asked.2.1 63 = .ok (.getfield 177, 3) := by decide +kernel
theorem dX10_asked_66 : decode mX10_asked.2.1 66 = .ok (.ldc2_w 232, 3) := by decide +kernel
theorem dX10_asked_69 : decode mX10_asked.2.1 69 = .ok (.lcmp, 1) := by decide +kernel
theorem dX10_asked_70 : decode mX10_asked.2.1 70 = .ok (.ifCond .ne 7, 3) := by decide +kernel
theorem dX10_asked_73 : decode mX10_asked.2.1 73 = .ok (.iconst 4, 1) := by decide +kernel
theorem dX10_asked_74 : decode mX10_asked.2.1 74 = .ok (.goto 4, 3) := by decide +kernel
theorem dX10_asked_77 : decode mX10_asked.2.1 77 = .ok (.iconst (-1), 1) := by decide +kernel
theorem dX10_asked_78 : decode mX10_asked.2.1 78 = .ok (.ireturn, 1) := by decide +kernel
def hX10_asked (w : pw_W) : Int32 := (if (pw_I w 61 6) = 1 then (if (pw_L w 61 9) = 7305070 then 0 else (if (pw_L w 61 9) = 478694368626 then 1 else (if (pw_L w 61 9) = 1936683621 then 2 else (if (pw_L w 61 9) = 6578553 then 3 else (if (pw_L w 61 9) = 2003133803 then 4 else (-1)))))) else (-1))
theorem sX10_asked {E : px_E} {d : Nat} {w : pw_W} {Q : Option Value → pw_W → Prop} {t : ct_T} (hw : w.1 = cs t)   (k : Q (some (.int (hX10_asked w))) w) : px_Call E (d + 1) 0 0 mX10_asked [.ref 61] w Q := by
  refine px_enter (k := 0) (ls := [.ref 61]) (by decide) (Nat.le_of_ble_eq_true rfl) rfl (px_forget (ls' := [.ref 61]) ?_ ⟨Or.inr rfl, trivial⟩)
  refine px_aload_n dX10_asked_0 rfl rfl ?_
  refine px_getI dX10_asked_1 fr_10_184 rfl (px_sh1 hw sh_61) ?_
  refine px_iconst dX10_asked_4 ic_1 ?_
  refine px_icmp_eq (tgt := 10) dX10_asked_5 (by decide) (fun h1 => ?_) (fun h1 => ?_)
  ·
    refine px_aload_n dX10_asked_10 rfl rfl ?_
    refine px_getL dX10_asked_11 fr_10_177 rfl (px_sh1 hw sh_61) ?_
    refine px_ldc2 dX10_asked_14 (px_in7 61 rfl rfl) ?_
    refine px_lcmp_ne (tgt := 23) dX10_asked_17 dX10_asked_18 (by decide) (fun h2 => ?_) (fun h2 => ?_)
    ·
      refine px_aload_n dX10_asked_23 rfl rfl ?_
      refine px_getL dX10_asked_24 fr_10_177 rfl (px_sh1 hw sh_61) ?_
      refine px_ldc2 dX10_asked_27 (px_in7 62 rfl rfl) ?_
      refine px_lcmp_ne (tgt := 36) dX10_asked_30 dX10_asked_31 (by decide) (fun h3 => ?_) (fun h3 => ?_)
      ·
        refine px_aload_n dX10_asked_36 rfl rfl ?_
        refine px_getL dX10_asked_37 fr_10_177 rfl (px_sh1 hw sh_61) ?_
        refine px_ldc2 dX10_asked_40 (px_in7 63 rfl rfl) ?_
        refine px_lcmp_ne (tgt := 49) dX10_asked_43 dX10_asked_44 (by decide) (fun h4 => ?_) (fun h4 => ?_)
        ·
          refine px_aload_n dX10_asked_49 rfl rfl ?_
          refine px_getL dX10_asked_50 fr_10_177 rfl (px_sh1 hw sh_61) ?_
          refine px_ldc2 dX10_asked_53 (px_in7 64 rfl rfl) ?_
          refine px_lcmp_ne (tgt := 62) dX10_asked_56 dX10_asked_57 (by decide) (fun h5 => ?_) (fun h5 => ?_)
          ·
            refine px_aload_n dX10_asked_62 rfl rfl ?_
            refine px_getL dX10_asked_63 fr_10_177 rfl (px_sh1 hw sh_61) ?_
            refine px_ldc2 dX10_asked_66 (px_in7 65 rfl rfl) ?_
            refine px_lcmp_ne (tgt := 77) dX10_asked_69 dX10_asked_70 (by decide) (fun h6 => ?_) (fun h6 => ?_)
            ·
              refine px_iconst dX10_asked_77 ic_m1 ?_
              exact px_ireturn dX10_asked_78 rfl rfl (by unfold hX10_asked at k; rw [if_pos h1, if_neg h2, if_neg h3, if_neg h4, if_neg h5, if_neg h6] at k; exact k)
            ·
              refine px_iconst dX10_asked_73 ic_4 ?_
              refine px_goto (tgt := 78) dX10_asked_74 (by decide) ?_
              exact px_ireturn dX10_asked_78 rfl rfl (by unfold hX10_asked at k; rw [if_pos h1, if_neg h2, if_neg h3, if_neg h4, if_neg h5, if_pos h6] at k; exact k)
          ·
            refine px_iconst dX10_asked_60 ic_3 ?_
            exact px_ireturn dX10_asked_61 rfl rfl (by unfold hX10_asked at k; rw [if_pos h1, if_neg h2, if_neg h3, if_neg h4, if_pos h5] at k; exact k)
        ·
          refine px_iconst dX10_asked_47 ic_2 ?_
          exact px_ireturn dX10_asked_48 rfl rfl (by unfold hX10_asked at k; rw [if_pos h1, if_neg h2, if_neg h3, if_pos h4] at k; exact k)
      ·
        refine px_iconst dX10_asked_34 ic_1 ?_
        exact px_ireturn dX10_asked_35 rfl rfl (by unfold hX10_asked at k; rw [if_pos h1, if_neg h2, if_pos h3] at k; exact k)
    ·
      refine px_iconst dX10_asked_21 ic_0 ?_
      exact px_ireturn dX10_asked_22 rfl rfl (by unfold hX10_asked at k; rw [if_pos h1, if_pos h2] at k; exact k)
  ·
    refine px_iconst dX10_asked_8 ic_m1 ?_
    exact px_ireturn dX10_asked_9 rfl rfl (by unfold hX10_asked at k; rw [if_neg h1] at k; exact k)
theorem dX10_sign_0 : decode mX10_sign.2.1 0 = .ok (.aload_n 0, 1) := by decide +kernel
theorem dX10_sign_1 : decode mX10_sign.2.1 1 = .ok (.ldc2_w 234, 3) := by decide +kernel
theorem dX10_sign_4 : decode mX10_sign.2.1 4 = .ok (.invokevirtual 244, 3) := by decide +kernel
theorem dX10_sign_7 : decode mX10_sign.2.1 7 = .ok (.ifCond .eq 6, 3) := by decide +kernel
theorem dX10_sign_10 : decode mX10_sign.2.1 10 = .ok (.bipush 38, 2) := by decide +kernel
theorem dX10_sign_12 : decode mX10_sign.2.1 12 = .ok (.ireturn, 1) := by decide +kernel
theorem dX10_sign_13 : decode mX10_sign.2.1 13 = .ok (.aload_n 0, 1) := by decide +kernel
theorem dX10_sign_14 : decode mX10_sign.2.1 14 = .ok (.ldc2_w 236, 3) := by decide +kernel
theorem dX10_sign_17 : decode mX10_sign.2.1 17 = .ok (.invokevirtual 244, 3) := by decide +kernel
theorem dX10_sign_20 : decode mX10_sign.2.1 20 = .ok (.ifCond .eq 6, 3) := by decide +kernel
theorem dX10_sign_23 : decode mX10_sign.2.1 23 = .ok (.bipush 124, 2) := by decide +kernel
theorem dX10_sign_25 : decode mX10_sign.2.1 25 = .ok (.ireturn, 1) := by decide +kernel
theorem dX10_sign_26 : decode mX10_sign.2.1 26 = .ok (.aload_n 0, 1) := by decide +kernel
theorem dX10_sign_27 : decode mX10_sign.2.1 27 = .ok (.getfield 184, 3) := by decide +kernel
theorem dX10_sign_30 : decode mX10_sign.2.1 30 = .ok (.bipush 60, 2) := by decide +kernel
theorem dX10_sign_32 : decode mX10_sign.2.1 32 = .ok (.if_icmp .eq 66, 3) := by decide +kernel
theorem dX10_sign_35 : decode mX10_sign.2.1 35 = .ok (.aload_n 0, 1) := by decide +kernel
theorem dX10_sign_36 : decode mX10_sign.2.1 36 = .ok (.getfield 184, 3) := by decide +kernel
theorem dX10_sign_39 : decode mX10_sign.2.1 39 = .ok (.bipush 62, 2) := by decide +kernel
theorem dX10_sign_41 : decode mX10_sign.2.1 41 = .ok (.if_icmp .eq 57, 3) := by decide +kernel
theorem dX10_sign_44 : decode mX10_sign.2.1 44 = .ok (.aload_n 0, 1) := by decide +kernel
theorem dX10_sign_45 : decode mX10_sign.2.1 45 = .ok (.getfield 184, 3) := by decide +kernel
theorem dX10_sign_48 : decode mX10_sign.2.1 48 = .ok (.bipush 61, 2) := by decide +kernel
theorem dX10_sign_50 : decode mX10_sign.2.1 50 = .ok (.if_icmp .eq 48, 3) := by decide +kernel
theorem dX10_sign_53 : decode mX10_sign.2.1 53 = .ok (.aload_n 0, 1) := by decide +kernel
theorem dX10_sign_54 : decode mX10_sign.2.1 54 = .ok (.getfield 184, 3) := by decide +kernel
theorem dX10_sign_57 : decode mX10_sign.2.1 57 = .ok (.bipush 43, 2) := by decide +kernel
theorem dX10_sign_59 : decode mX10_sign.2.1 59 = .ok (.if_icmp .eq 39, 3) := by decide +kernel
theorem dX10_sign_62 : decode mX10_sign.2.1 62 = .ok (.aload_n 0, 1) := by decide +kernel
theorem dX10_sign_63 : decode mX10_sign.2.1 63 = .ok (.getfield 184, 3) := by decide +kernel
theorem dX10_sign_66 : decode mX10_sign.2.1 66 = .ok (.bipush 45, 2) := by decide +kernel
theorem dX10_sign_68 : decode mX10_sign.2.1 68 = .ok (.if_icmp .eq 30, 3) := by decide +kernel
theorem dX10_sign_71 : decode mX10_sign.2.1 71 = .ok (.aload_n 0, 1) := by decide +kernel
theorem dX10_sign_72 : decode mX10_sign.2.1 72 = .ok (.getfield 184, 3) := by decide +kernel
theorem dX10_sign_75 : decode mX10_sign.2.1 75 = .ok (.bipush 42, 2) := by decide +kernel
theorem dX10_sign_77 : decode mX10_sign.2.1 77 = .ok (.if_icmp .eq 21, 3) := by decide +kernel
theorem dX10_sign_80 : decode mX10_sign.2.1 80 = .ok (.aload_n 0, 1) := by decide +kernel
theorem dX10_sign_81 : decode mX10_sign.2.1 81 = .ok (.getfield 184, 3) := by decide +kernel
theorem dX10_sign_84 : decode mX10_sign.2.1 84 = .ok (.bipush 47, 2) := by decide +kernel
theorem dX10_sign_86 : decode mX10_sign.2.1 86 = .ok (.if_icmp .eq 12, 3) := by decide +kernel
theorem dX10_sign_89 : decode mX10_sign.2.1 89 = .ok (.aload_n 0, 1) := by decide +kernel
theorem dX10_sign_90 : decode mX10_sign.2.1 90 = .ok (.getfield 184, 3) := by decide +kernel
theorem dX10_sign_93 : decode mX10_sign.2.1 93 = .ok (.bipush 37, 2) := by decide +kernel
theorem dX10_sign_95 : decode mX10_sign.2.1 95 = .ok (.if_icmp .ne 10, 3) := by decide +kernel
theorem dX10_sign_98 : decode mX10_sign.2.1 98 = .ok (.aload_n 0, 1) := by decide +kernel
theorem dX10_sign_99 : decode mX10_sign.2.1 99 = .ok (.getfield 184, 3) := by decide +kernel
theorem dX10_sign_102 : decode mX10_sign.2.1 102 = .ok (.goto 4, 3) := by decide +kernel
theorem dX10_sign_105 : decode mX10_sign.2.1 105 = .ok (.iconst 0, 1) := by decide +kernel
theorem dX10_sign_106 : decode mX10_sign.2.1 106 = .ok (.ireturn, 1) := by decide +kernel
def hX10_sign (w : pw_W) : Int32 := (if (pX10_isWord w 6385252) then 38 else (if (pX10_isWord w 28530) then 124 else (if (pw_I w 61 6) = 60 then (pw_I w 61 6) else (if (pw_I w 61 6) = 62 then (pw_I w 61 6) else (if (pw_I w 61 6) = 61 then (pw_I w 61 6) else (if (pw_I w 61 6) = 43 then (pw_I w 61 6) else (if (pw_I w 61 6) = 45 then (pw_I w 61 6) else (if (pw_I w 61 6) = 42 then (pw_I w 61 6) else (if (pw_I w 61 6) = 47 then (pw_I w 61 6) else (if (pw_I w 61 6) = 37 then (pw_I w 61 6) else 0))))))))))
theorem sX10_sign {E : px_E} {d : Nat} {w : pw_W} {Q : Option Value → pw_W → Prop} {t : ct_T} (hw : w.1 = cs t)   (k : Q (some (.int (hX10_sign w))) w) : px_Call E (d + 2) 0 0 mX10_sign [.ref 61] w Q := by
  refine px_enter (k := 0) (ls := [.ref 61]) (by decide) (Nat.le_of_ble_eq_true rfl) rfl (px_forget (ls' := [.ref 61]) ?_ ⟨Or.inr rfl, trivial⟩)
  refine px_aload_n dX10_sign_0 rfl rfl ?_
  refine px_ldc2 dX10_sign_1 (px_in7 66 rfl rfl) ?_
  refine px_callV (As := [.long 6385252]) (st := []) (rc := 0) (rs := 0) (mc := 0) (ms := 0) dX10_sign_4 lk_10_244 (px_sh1 hw sh_61) rfl rfl (Nat.le_of_ble_eq_true rfl) (sX10_isWord (w := w) hw ?_)
  show px_W E mX10_sign (d + 2) 0 0 7 [.ref 61] [.int (jb (pX10_isWord w 6385252))] w Q
  refine px_jb_eq (tgt := 13) dX10_sign_7 (by decide) (fun h1 => ?_) (fun h1 => ?_)
  ·
    refine px_aload_n dX10_sign_13 rfl rfl ?_
    refine px_ldc2 dX10_sign_14 (px_in7 67 rfl rfl) ?_
    refine px_callV (As := [.long 28530]) (st := []) (rc := 0) (rs := 0) (mc := 0) (ms := 0) dX10_sign_17 lk_10_244 (px_sh1 hw sh_61) rfl rfl (Nat.le_of_ble_eq_true rfl) (sX10_isWord (w := w) hw ?_)
    show px_W E mX10_sign (d + 2) 0 0 20 [.ref 61] [.int (jb (pX10_isWord w 28530))] w Q
    refine px_jb_eq (tgt := 26) dX10_sign_20 (by decide) (fun h2 => ?_) (fun h2 => ?_)
    ·
      refine px_aload_n dX10_sign_26 rfl rfl ?_
      refine px_getI dX10_sign_27 fr_10_184 rfl (px_sh1 hw sh_61) ?_
      refine px_bipush dX10_sign_30 bp_60 ?_
      refine px_icmp_eq (tgt := 98) dX10_sign_32 (by decide) (fun h3 => ?_) (fun h3 => ?_)
      ·
        refine px_aload_n dX10_sign_98 rfl rfl ?_
        refine px_getI dX10_sign_99 fr_10_184 rfl (px_sh1 hw sh_61) ?_
        refine px_goto (tgt := 106) dX10_sign_102 (by decide) ?_
        exact px_ireturn dX10_sign_106 rfl rfl (by unfold hX10_sign at k; rw [if_neg h1, if_neg h2, if_pos h3] at k; exact k)
      ·
        refine px_aload_n dX10_sign_35 rfl rfl ?_
        refine px_getI dX10_sign_36 fr_10_184 rfl (px_sh1 hw sh_61) ?_
        refine px_bipush dX10_sign_39 bp_62 ?_
        refine px_icmp_eq (tgt := 98) dX10_sign_41 (by decide) (fun h4 => ?_) (fun h4 => ?_)
        ·
          refine px_aload_n dX10_sign_98 rfl rfl ?_
          refine px_getI dX10_sign_99 fr_10_184 rfl (px_sh1 hw sh_61) ?_
          refine px_goto (tgt := 106) dX10_sign_102 (by decide) ?_
          exact px_ireturn dX10_sign_106 rfl rfl (by unfold hX10_sign at k; rw [if_neg h1, if_neg h2, if_neg h3, if_pos h4] at k; exact k)
        ·
          refine px_aload_n dX10_sign_44 rfl rfl ?_
          refine px_getI dX10_sign_45 fr_10_184 rfl (px_sh1 hw sh_61) ?_
          refine px_bipush dX10_sign_48 bp_61 ?_
          refine px_icmp_eq (tgt := 98) dX10_sign_50 (by decide) (fun h5 => ?_) (fun h5 => ?_)
          ·
            refine px_aload_n dX10_sign_98 rfl rfl ?_
            refine px_getI dX10_sign_99 fr_10_184 rfl (px_sh1 hw sh_61) ?_
            refine px_goto (tgt := 106) dX10_sign_102 (by decide) ?_
            exact px_ireturn dX10_sign_106 rfl rfl (by unfold hX10_sign at k; rw [if_neg h1, if_neg h2, if_neg h3, if_neg h4, if_pos h5] at k; exact k)
          ·
            refine px_aload_n dX10_sign_53 rfl rfl ?_
            refine px_getI dX10_sign_54 fr_10_184 rfl (px_sh1 hw sh_61) ?_
            refine px_bipush dX10_sign_57 bp_43 ?_
            refine px_icmp_eq (tgt := 98) dX10_sign_59 (by decide) (fun h6 => ?_) (fun h6 => ?_)
            ·
              refine px_aload_n dX10_sign_98 rfl rfl ?_
              refine px_getI dX10_sign_99 fr_10_184 rfl (px_sh1 hw sh_61) ?_
              refine px_goto (tgt := 106) dX10_sign_102 (by decide) ?_
              exact px_ireturn dX10_sign_106 rfl rfl (by unfold hX10_sign at k; rw [if_neg h1, if_neg h2, if_neg h3, if_neg h4, if_neg h5, if_pos h6] at k; exact k)
            ·
              refine px_aload_n dX10_sign_62 rfl rfl ?_
              refine px_getI dX10_sign_63 fr_10_184 rfl (px_sh1 hw sh_61) ?_
              refine px_bipush dX10_sign_66 bp_45 ?_
              refine px_icmp_eq (tgt := 98) dX10_sign_68 (by decide) (fun h7 => ?_) (fun h7 => ?_)
              ·
                refine px_aload_n dX10_sign_98 rfl rfl ?_
                refine px_getI dX10_sign_99 fr_10_184 rfl (px_sh1 hw sh_61) ?_
                refine px_goto (tgt := 106) dX10_sign_102 (by decide) ?_
                exact px_ireturn dX10_sign_106 rfl rfl (by unfold hX10_sign at k; rw [if_neg h1, if_neg h2, if_neg h3, if_neg h4, if_neg h5, if_neg h6, if_pos h7] at k; exact k)
              ·
                refine px_aload_n dX10_sign_71 rfl rfl ?_
                refine px_getI dX10_sign_72 fr_10_184 rfl (px_sh1 hw sh_61) ?_
                refine px_bipush dX10_sign_75 bp_42 ?_
                refine px_icmp_eq (tgt := 98) dX10_sign_77 (by decide) (fun h8 => ?_) (fun h8 => ?_)
                ·
                  refine px_aload_n dX10_sign_98 rfl rfl ?_
                  refine px_getI dX10_sign_99 fr_10_184 rfl (px_sh1 hw sh_61) ?_
                  refine px_goto (tgt := 106) dX10_sign_102 (by decide) ?_
                  exact px_ireturn dX10_sign_106 rfl rfl (by unfold hX10_sign at k; rw [if_neg h1, if_neg h2, if_neg h3, if_neg h4, if_neg h5, if_neg h6, if_neg h7, if_pos h8] at k; exact k)
                ·
                  refine px_aload_n dX10_sign_80 rfl rfl ?_
                  refine px_getI dX10_sign_81 fr_10_184 rfl (px_sh1 hw sh_61) ?_
                  refine px_bipush dX10_sign_84 bp_47 ?_
                  refine px_icmp_eq (tgt := 98) dX10_sign_86 (by decide) (fun h9 => ?_) (fun h9 => ?_)
                  ·
                    refine px_aload_n dX10_sign_98 rfl rfl ?_
                    refine px_getI dX10_sign_99 fr_10_184 rfl (px_sh1 hw sh_61) ?_
                    refine px_goto (tgt := 106) dX10_sign_102 (by decide) ?_
                    exact px_ireturn dX10_sign_106 rfl rfl (by unfold hX10_sign at k; rw [if_neg h1, if_neg h2, if_neg h3, if_neg h4, if_neg h5, if_neg h6, if_neg h7, if_neg h8, if_pos h9] at k; exact k)
                  ·
                    refine px_aload_n dX10_sign_89 rfl rfl ?_
                    refine px_getI dX10_sign_90 fr_10_184 rfl (px_sh1 hw sh_61) ?_
                    refine px_bipush dX10_sign_93 bp_37 ?_
                    refine px_icmp_ne (tgt := 105) dX10_sign_95 (by decide) (fun h10 => ?_) (fun h10 => ?_)
                    ·
                      refine px_iconst dX10_sign_105 ic_0 ?_
                      exact px_ireturn dX10_sign_106 rfl rfl (by unfold hX10_sign at k; rw [if_neg h1, if_neg h2, if_neg h3, if_neg h4, if_neg h5, if_neg h6, if_neg h7, if_neg h8, if_neg h9, if_neg h10] at k; exact k)
                    ·
                      refine px_aload_n dX10_sign_98 rfl rfl ?_
                      refine px_getI dX10_sign_99 fr_10_184 rfl (px_sh1 hw sh_61) ?_
                      refine px_goto (tgt := 106) dX10_sign_102 (by decide) ?_
                      exact px_ireturn dX10_sign_106 rfl rfl (by unfold hX10_sign at k; rw [if_neg h1, if_neg h2, if_neg h3, if_neg h4, if_neg h5, if_neg h6, if_neg h7, if_neg h8, if_neg h9, if_pos h10] at k; exact k)
    ·
      refine px_bipush dX10_sign_23 bp_124 ?_
      exact px_ireturn dX10_sign_25 rfl rfl (by unfold hX10_sign at k; rw [if_neg h1, if_pos h2] at k; exact k)
  ·
    refine px_bipush dX10_sign_10 bp_38 ?_
    exact px_ireturn dX10_sign_12 rfl rfl (by unfold hX10_sign at k; rw [if_pos h1] at k; exact k)
theorem dX10_isAbed_0 : decode mX10_isAbed.2.1 0 = .ok (.aload_n 0, 1) := by decide +kernel
theorem dX10_isAbed_1 : decode mX10_isAbed.2.1 1 = .ok (.getfield 102, 3) := by decide +kernel
theorem dX10_isAbed_4 : decode mX10_isAbed.2.1 4 = .ok (.bipush 6, 2) := by decide +kernel
theorem dX10_isAbed_6 : decode mX10_isAbed.2.1 6 = .ok (.iload_n 1, 1) := by decide +kernel
theorem dX10_isAbed_7 : decode mX10_isAbed.2.1 7 = .ok (.iadd, 1) := by decide +kernel
theorem dX10_isAbed_8 : decode mX10_isAbed.2.1 8 = .ok (.iaload, 1) := by decide +kernel
theorem dX10_isAbed_9 : decode mX10_isAbed.2.1 9 = .ok (.aload_n 0, 1) := by decide +kernel
theorem dX10_isAbed_10 : decode mX10_isAbed.2.1 10 = .ok (.getfield 96, 3) := by decide +kernel
theorem dX10_isAbed_13 : decode mX10_isAbed.2.1 13 = .ok (.if_icmp .lt 7, 3) := by decide +kernel
theorem dX10_isAbed_16 : decode mX10_isAbed.2.1 16 = .ok (.iconst 1, 1) := by decide +kernel
theorem dX10_isAbed_17 : decode mX10_isAbed.2.1 17 = .ok (.goto 4, 3) := by decide +kernel
theorem dX10_isAbed_20 : decode mX10_isAbed.2.1 20 = .ok (.iconst 0, 1) := by decide +kernel
theorem dX10_isAbed_21 : decode mX10_isAbed.2.1 21 = .ok (.ireturn, 1) := by decide +kernel
abbrev pX10_isAbed (w : pw_W) (x1 : Int32) (j1 : Nat) : Prop := ¬ ((pw_I w 90 j1) < (pw_I w 61 54))
theorem sX10_isAbed {E : px_E} {d : Nat} {w : pw_W} {Q : Option Value → pw_W → Prop} {t : ct_T} (hw : w.1 = cs t) {x1 : Int32}  (j1 : Nat) (hj1 : (6 + x1) = nI j1) (hl1 : j1 < 15) (k : Q (some (.int (jb (pX10_isAbed w x1 j1)))) w) : px_Call E (d + 1) 0 0 mX10_isAbed [.ref 61, .int x1] w Q := by
  refine px_enter (k := 0) (ls := [.ref 61, .int x1]) (by decide) (Nat.le_of_ble_eq_true rfl) rfl (px_forget (ls' := [.ref 61, .int x1]) ?_ ⟨Or.inr rfl, Or.inr rfl, trivial⟩)
  refine px_aload_n dX10_isAbed_0 rfl rfl ?_
  refine px_getR (v := 90) dX10_isAbed_1 fr_10_102 rfl (px_sh1 hw sh_61) (px_rf hw rf_61_61) (by decide) ?_
  refine px_bipush dX10_isAbed_4 bp_6 ?_
  refine px_iload_n dX10_isAbed_6 rfl rfl ?_
  refine px_iadd dX10_isAbed_7 ?_
  refine px_iald dX10_isAbed_8 (px_sh2 hw sh_90) (by decide) j1 hj1 hl1 ?_
  refine px_aload_n dX10_isAbed_9 rfl rfl ?_
  refine px_getI dX10_isAbed_10 fr_10_96 rfl (px_sh1 hw sh_61) ?_
  refine px_icmp_lt (tgt := 20) dX10_isAbed_13 (by decide) (fun h1 => ?_) (fun h1 => ?_)
  ·
    refine px_iconst dX10_isAbed_20 ic_0 ?_
    exact px_ireturn dX10_isAbed_21 rfl (by decide) (by rw [jb_f (p := pX10_isAbed w x1 j1) (fun z => z h1)] at k; exact k)
  ·
    refine px_iconst dX10_isAbed_16 ic_1 ?_
    refine px_goto (tgt := 21) dX10_isAbed_17 (by decide) ?_
    exact px_ireturn dX10_isAbed_21 rfl (by decide) (by rw [jb_t (p := pX10_isAbed w x1 j1) h1] at k; exact k)
theorem dX10_isBanned_0 : decode mX10_isBanned.2.1 0 = .ok (.aload_n 0, 1) := by decide +kernel
theorem dX10_isBanned_1 : decode mX10_isBanned.2.1 1 = .ok (.getfield 102, 3) := by decide +kernel
theorem dX10_isBanned_4 : decode mX10_isBanned.2.1 4 = .ok (.bipush 12, 2) := by decide +kernel
theorem dX10_isBanned_6 : decode mX10_isBanned.2.1 6 = .ok (.iaload, 1) := by decide +kernel
theorem dX10_isBanned_7 : decode mX10_isBanned.2.1 7 = .ok (.iload_n 1, 1) := by decide +kernel
theorem dX10_isBanned_8 : decode mX10_isBanned.2.1 8 = .ok (.ishr, 1) := by decide +kernel
theorem dX10_isBanned_9 : decode mX10_isBanned.2.1 9 = .ok (.iconst 1, 1) := by decide +kernel
theorem dX10_isBanned_10 : decode mX10_isBanned.2.1 10 = .ok (.iand, 1) := by decide +kernel
theorem dX10_isBanned_11 : decode mX10_isBanned.2.1 11 = .ok (.iconst 1, 1) := by decide +kernel
theorem dX10_isBanned_12 : decode mX10_isBanned.2.1 12 = .ok (.if_icmp .ne 7, 3) := by decide +kernel
theorem dX10_isBanned_15 : decode mX10_isBanned.2.1 15 = .ok (.iconst 1, 1) := by decide +kernel
theorem dX10_isBanned_16 : decode mX10_isBanned.2.1 16 = .ok (.goto 4, 3) := by decide +kernel
theorem dX10_isBanned_19 : decode mX10_isBanned.2.1 19 = .ok (.iconst 0, 1) := by decide +kernel
theorem dX10_isBanned_20 : decode mX10_isBanned.2.1 20 = .ok (.ireturn, 1) := by decide +kernel
abbrev pX10_isBanned (w : pw_W) (x1 : Int32) : Prop := ((js_shr (pw_I w 90 12) x1) &&& 1) = 1
theorem sX10_isBanned {E : px_E} {d : Nat} {w : pw_W} {Q : Option Value → pw_W → Prop} {t : ct_T} (hw : w.1 = cs t) {x1 : Int32}   (k : Q (some (.int (jb (pX10_isBanned w x1)))) w) : px_Call E (d + 1) 0 0 mX10_isBanned [.ref 61, .int x1] w Q := by
  refine px_enter (k := 0) (ls := [.ref 61, .int x1]) (by decide) (Nat.le_of_ble_eq_true rfl) rfl (px_forget (ls' := [.ref 61, .int x1]) ?_ ⟨Or.inr rfl, Or.inr rfl, trivial⟩)
  refine px_aload_n dX10_isBanned_0 rfl rfl ?_
  refine px_getR (v := 90) dX10_isBanned_1 fr_10_102 rfl (px_sh1 hw sh_61) (px_rf hw rf_61_61) (by decide) ?_
  refine px_bipush dX10_isBanned_4 bp_12 ?_
  refine px_iald dX10_isBanned_6 (px_sh2 hw sh_90) (by decide) 12 rfl (by decide) ?_
  refine px_iload_n dX10_isBanned_7 rfl rfl ?_
  refine px_ishr dX10_isBanned_8 ?_
  refine px_iconst dX10_isBanned_9 ic_1 ?_
  refine px_iand dX10_isBanned_10 ?_
  refine px_iconst dX10_isBanned_11 ic_1 ?_
  refine px_icmp_ne (tgt := 19) dX10_isBanned_12 (by decide) (fun h1 => ?_) (fun h1 => ?_)
  ·
    refine px_iconst dX10_isBanned_19 ic_0 ?_
    exact px_ireturn dX10_isBanned_20 rfl (by decide) (by rw [jb_f (p := pX10_isBanned w x1) h1] at k; exact k)
  ·
    refine px_iconst dX10_isBanned_15 ic_1 ?_
    refine px_goto (tgt := 20) dX10_isBanned_16 (by decide) ?_
    exact px_ireturn dX10_isBanned_20 rfl (by decide) (by rw [jb_t (p := pX10_isBanned w x1) h1] at k; exact k)
theorem dX10_isBannedNow_0 : decode mX10_isBannedNow.2.1 0 = .ok (.aload_n 0, 1) := by decide +kernel
theorem dX10_isBannedNow_1 : decode mX10_isBannedNow.2.1 1 = .ok (.getfield 99, 3) := by decide +kernel
theorem dX10_isBannedNow_4 : decode mX10_isBannedNow.2.1 4 = .ok (.bipush 12, 2) := by decide +kernel
theorem dX10_isBannedNow_6 : decode mX10_isBannedNow.2.1 6 = .ok (.iaload, 1) := by decide +kernel
theorem dX10_isBannedNow_7 : decode mX10_isBannedNow.2.1 7 = .ok (.iload_n 1, 1) := by decide +kernel
theorem dX10_isBannedNow_8 : decode mX10_isBannedNow.2.1 8 = .ok (.ishr, 1) := by decide +kernel
theorem dX10_isBannedNow_9 : decode mX10_isBannedNow.2.1 9 = .ok (.iconst 1, 1) := by decide +kernel
theorem dX10_isBannedNow_10 : decode mX10_isBannedNow.2.1 10 = .ok (.iand, 1) := by decide +kernel
theorem dX10_isBannedNow_11 : decode mX10_isBannedNow.2.1 11 = .ok (.iconst 1, 1) := by decide +kernel
theorem dX10_isBannedNow_12 : decode mX10_isBannedNow.2.1 12 = .ok (.if_icmp .ne 7, 3) := by decide +kernel
theorem dX10_isBannedNow_15 : decode mX10_isBannedNow.2.1 15 = .ok (.iconst 1, 1) := by decide +kernel
theorem dX10_isBannedNow_16 : decode mX10_isBannedNow.2.1 16 = .ok (.goto 4, 3) := by decide +kernel
theorem dX10_isBannedNow_19 : decode mX10_isBannedNow.2.1 19 = .ok (.iconst 0, 1) := by decide +kernel
theorem dX10_isBannedNow_20 : decode mX10_isBannedNow.2.1 20 = .ok (.ireturn, 1) := by decide +kernel
abbrev pX10_isBannedNow (w : pw_W) (x1 : Int32) : Prop := ((js_shr (pw_I w 89 12) x1) &&& 1) = 1
theorem sX10_isBannedNow {E : px_E} {d : Nat} {w : pw_W} {Q : Option Value → pw_W → Prop} {t : ct_T} (hw : w.1 = cs t) {x1 : Int32}   (k : Q (some (.int (jb (pX10_isBannedNow w x1)))) w) : px_Call E (d + 1) 0 0 mX10_isBannedNow [.ref 61, .int x1] w Q := by
  refine px_enter (k := 0) (ls := [.ref 61, .int x1]) (by decide) (Nat.le_of_ble_eq_true rfl) rfl (px_forget (ls' := [.ref 61, .int x1]) ?_ ⟨Or.inr rfl, Or.inr rfl, trivial⟩)
  refine px_aload_n dX10_isBannedNow_0 rfl rfl ?_
  refine px_getR (v := 89) dX10_isBannedNow_1 fr_10_99 rfl (px_sh1 hw sh_61) (px_rf hw rf_61_60) (by decide) ?_
  refine px_bipush dX10_isBannedNow_4 bp_12 ?_
  refine px_iald dX10_isBannedNow_6 (px_sh2 hw sh_89) (by decide) 12 rfl (by decide) ?_
  refine px_iload_n dX10_isBannedNow_7 rfl rfl ?_
  refine px_ishr dX10_isBannedNow_8 ?_
  refine px_iconst dX10_isBannedNow_9 ic_1 ?_
  refine px_iand dX10_isBannedNow_10 ?_
  refine px_iconst dX10_isBannedNow_11 ic_1 ?_
  refine px_icmp_ne (tgt := 19) dX10_isBannedNow_12 (by decide) (fun h1 => ?_) (fun h1 => ?_)
  ·
    refine px_iconst dX10_isBannedNow_19 ic_0 ?_
    exact px_ireturn dX10_isBannedNow_20 rfl (by decide) (by rw [jb_f (p := pX10_isBannedNow w x1) h1] at k; exact k)
  ·
    refine px_iconst dX10_isBannedNow_15 ic_1 ?_
    refine px_goto (tgt := 20) dX10_isBannedNow_16 (by decide) ?_
    exact px_ireturn dX10_isBannedNow_20 rfl (by decide) (by rw [jb_t (p := pX10_isBannedNow w x1) h1] at k; exact k)
theorem dX10_done_0 : decode mX10_done.2.1 0 = .ok (.iload_n 0, 1) := by decide +kernel
theorem dX10_done_1 : decode mX10_done.2.1 1 = .ok (.tableswitch 214 37 62 #[143, 197, 214, 214, 214, 127, 119, 214, 123, 214, 131, 214, 214, 214, 214, 214, 214, 214, 214, 214, 214, 214, 214, 155, 183, 169], 119) := by decide +kernel
theorem dX10_done_120 : decode mX10_done.2.1 120 = .ok (.iload_n 1, 1) := by decide +kernel
theorem dX10_done_121 : decode mX10_done.2.1 121 = .ok (.iload_n 2, 1) := by decide +kernel
theorem dX10_done_122 : decode mX10_done.2.1 122 = .ok (.iadd, 1) := by decide +kernel
theorem dX10_done_123 : decode mX10_done.2.1 123 = .ok (.ireturn, 1) := by decide +kernel
theorem dX10_done_124 : decode mX10_done.2.1 124 = .ok (.iload_n 1, 1) := by decide +kernel
theorem dX10_done_125 : decode mX10_done.2.1 125 = .ok (.iload_n 2, 1) := by decide +kernel
theorem dX10_done_126 : decode mX10_done.2.1 126 = .ok (.isub, 1) := by decide +kernel
theorem dX10_done_127 : decode mX10_done.2.1 127 = .ok (.ireturn, 1) := by decide +kernel
theorem dX10_done_128 : decode mX10_done.2.1 128 = .ok (.iload_n 1, 1) := by decide +kernel
theorem dX10_done_129 : decode mX10_done.2.1 129 = .ok (.iload_n 2, 1) := by decide +kernel
theorem dX10_done_130 : decode mX10_done.2.1 130 = .ok (.imul, 1) := by decide +kernel
theorem dX10_done_131 : decode mX10_done.2.1 131 = .ok (.ireturn, 1) := by decide +kernel
theorem dX10_done_132 : decode mX10_done.2.1 132 = .ok (.iload_n 2, 1) := by decide +kernel
theorem dX10_done_133 : decode mX10_done.2.1 133 = .ok (.ifCond .ne 7, 3) := by decide +kernel
theorem dX10_done_136 : decode mX10_done.2.1 136 = .ok (.iconst 0, 1) := by decide +kernel
theorem dX10_done_137 : decode mX10_done.2.1 137 = .ok (.goto 6, 3) := by decide +kernel
theorem dX10_done_140 : decode mX10_done.2.1 140 = .ok (.iload_n 1, 1) := by decide +kernel
theorem dX10_done_141 : decode mX10_done.2.1 141 = .ok (.iload_n 2, 1) := by decide +kernel
theorem dX10_done_142 : decode mX10_done.2.1 142 = .ok (.idiv, 1) := by decide +kernel
theorem dX10_done_143 : decode mX10_done.2.1 143 = .ok (.ireturn, 1) := by decide +kernel
theorem dX10_done_144 : decode mX10_done.2.1 144 = .ok (.iload_n 2, 1) := by decide +kernel
theorem dX10_done_145 : decode mX10_done.2.1 145 = .ok (.ifCond .ne 7, 3) := by decide +kernel
theorem dX10_done_148 : decode mX10_done.2.1 148 = .ok (.iconst 0, 1) := by decide +kernel
theorem dX10_done_149 : decode mX10_done.2.1 149 = .ok (.goto 6, 3) := by decide +kernel
theorem dX10_done_152 : decode mX10_done.2.1 152 = .ok (.iload_n 1, 1) := by decide +kernel
theorem dX10_done_153 : decode mX10_done.2.1 153 = .ok (.iload_n 2, 1) := by decide +kernel
theorem dX10_done_154 : decode mX10_done.2.1 154 = .ok (.irem, 1) := by decide +kernel
theorem dX10_done_155 : decode mX10_done.2.1 155 = .ok (.ireturn, 1) := by decide +kernel
theorem dX10_done_156 : decode mX10_done.2.1 156 = .ok (.iload_n 1, 1) := by decide +kernel
theorem dX10_done_157 : decode mX10_done.2.1 157 = .ok (.iload_n 2, 1) := by decide +kernel
theorem dX10_done_158 : decode mX10_done.2.1 158 = .ok (.if_icmp .ge 7, 3) := by decide +kernel
theorem dX10_done_161 : decode mX10_done.2.1 161 = .ok (.iconst 1, 1) := by decide +kernel
theorem dX10_done_162 : decode mX10_done.2.1 162 = .ok (.goto 4, 3) := by decide +kernel
theorem dX10_done_165 : decode mX10_done.2.1 165 = .ok (.iconst 0, 1) := by decide +kernel
theorem dX10_done_166 : decode mX10_done.2.1 166 = .ok (.invokestatic 332, 3) := by decide +kernel
theorem dX10_done_169 : decode mX10_done.2.1 169 = .ok (.ireturn, 1) := by decide +kernel
theorem dX10_done_170 : decode mX10_done.2.1 170 = .ok (.iload_n 1, 1) := by decide +kernel
theorem dX10_done_171 : decode mX10_done.2.1 171 = .ok (.iload_n 2, 1) := by decide +kernel
theorem dX10_done_172 : decode mX10_done.2.1 172 = .ok (.if_icmp .le 7, 3) := by decide +kernel
theorem dX10_done_175 : decode mX10_done.2.1 175 = .ok (.iconst 1, 1) := by decide +kernel
theorem dX10_done_176 : decode mX10_done.2.1 176 = .ok (.goto 4, 3) := by decide +kernel
theorem dX10_done_179 : decode mX10_done.2.1 179 = .ok (.iconst 0, 1) := by decide +kernel
theorem dX10_done_180 : decode mX10_done.2.1 180 = .ok (.invokestatic 332, 3) := by decide +kernel
theorem dX10_done_183 : decode mX10_done.2.1 183 = .ok (.ireturn, 1) := by decide +kernel
theorem dX10_done_184 : decode mX10_done.2.1 184 = .ok (.iload_n 1, 1) := by decide +kernel
theorem dX10_done_185 : decode mX10_done.2.1 185 = .ok (.iload_n 2, 1) := by decide +kernel
theorem dX10_done_186 : decode mX10_done.2.1 186 = .ok (.if_icmp .ne 7, 3) := by decide +kernel
theorem dX10_done_189 : decode mX10_done.2.1 189 = .ok (.iconst 1, 1) := by decide +kernel
theorem dX10_done_190 : decode mX10_done.2.1 190 = .ok (.goto 4, 3) := by decide +kernel
theorem dX10_done_193 : decode mX10_done.2.1 193 = .ok (.iconst 0, 1) := by decide +kernel
theorem dX10_done_194 : decode mX10_done.2.1 194 = .ok (.invokestatic 332, 3) := by decide +kernel
theorem dX10_done_197 : decode mX10_done.2.1 197 = .ok (.ireturn, 1) := by decide +kernel
theorem dX10_done_198 : decode mX10_done.2.1 198 = .ok (.iload_n 1, 1) := by decide +kernel
theorem dX10_done_199 : decode mX10_done.2.1 199 = .ok (.ifCond .eq 11, 3) := by decide +kernel
theorem dX10_done_202 : decode mX10_done.2.1 202 = .ok (.iload_n 2, 1) := by decide +kernel
theorem dX10_done_203 : decode mX10_done.2.1 203 = .ok (.ifCond .eq 7, 3) := by decide +kernel
theorem dX10_done_206 : decode mX10_done.2.1 206 = .ok (.iconst 1, 1) := by decide +kernel
theorem dX10_done_207 : decode mX10_done.2.1 207 = .ok (.goto 4, 3) := by decide +kernel
theorem dX10_done_210 : decode mX10_done.2.1 210 = .ok (.iconst 0, 1) := by decide +kernel
theorem dX10_done_211 : decode mX10_done.2.1 211 = .ok (.invokestatic 332, 3) := by decide +kernel
theorem dX10_done_214 : decode mX10_done.2.1 214 = .ok (.ireturn, 1) := by decide +kernel
theorem dX10_done_215 : decode mX10_done.2.1 215 = .ok (.iload_n 1, 1) := by decide +kernel
theorem dX10_done_216 : decode mX10_done.2.1 216 = .ok (.ifCond .ne 7, 3) := by decide +kernel
theorem dX10_done_219 : decode mX10_done.2.1 219 = .ok (.iload_n 2, 1) := by decide +kernel
theorem dX10_done_220 : decode mX10_done.2.1 220 = .ok (.ifCond .eq 7, 3) := by decide +kernel
theorem dX10_done_223 : decode mX10_done.2.1 223 = .ok (.iconst 1, 1) := by decide +kernel
theorem dX10_done_224 : decode mX10_done.2.1 224 = .ok (.goto 4, 3) := by decide +kernel
theorem dX10_done_227 : decode mX10_done.2.1 227 = .ok (.iconst 0, 1) := by decide +kernel
theorem dX10_done_228 : decode mX10_done.2.1 228 = .ok (.invokestatic 332, 3) := by decide +kernel
theorem dX10_done_231 : decode mX10_done.2.1 231 = .ok (.ireturn, 1) := by decide +kernel
def hX10_done (x0 : Int32) (x1 : Int32) (x2 : Int32) : Int32 := (if x0 = 37 then (if x2 = 0 then 0 else (js_rem x1 x2)) else (if x0 = 38 then (if x1 = 0 then (hX10_truth 0) else (if x2 = 0 then (hX10_truth 0) else (hX10_truth 1))) else (if x0 = 39 then (if x1 = 0 then (if x2 = 0 then (hX10_truth 0) else (hX10_truth 1)) else (hX10_truth 1)) else (if x0 = 40 then (if x1 = 0 then (if x2 = 0 then (hX10_truth 0) else (hX10_truth 1)) else (hX10_truth 1)) else (if x0 = 41 then (if x1 = 0 then (if x2 = 0 then (hX10_truth 0) else (hX10_truth 1)) else (hX10_truth 1)) else (if x0 = 42 then (x1 * x2) else (if x0 = 43 then (x1 + x2) else (if x0 = 44 then (if x1 = 0 then (if x2 = 0 then (hX10_truth 0) else (hX10_truth 1)) else (hX10_truth 1)) else (if x0 = 45 then (x1 - x2) else (if x0 = 46 then (if x1 = 0 then (if x2 = 0 then (hX10_truth 0) else (hX10_truth 1)) else (hX10_truth 1)) else (if x0 = 47 then (if x2 = 0 then 0 else (x1 / x2)) else (if x0 = 48 then (if x1 = 0 then (if x2 = 0 then (hX10_truth 0) else (hX10_truth 1)) else (hX10_truth 1)) else (if x0 = 49 then (if x1 = 0 then (if x2 = 0 then (hX10_truth 0) else (hX10_truth 1)) else (hX10_truth 1)) else (if x0 = 50 then (if x1 = 0 then (if x2 = 0 then (hX10_truth 0) else (hX10_truth 1)) else (hX10_truth 1)) else (if x0 = 51 then (if x1 = 0 then (if x2 = 0 then (hX10_truth 0) else (hX10_truth 1)) else (hX10_truth 1)) else (if x0 = 52 then (if x1 = 0 then (if x2 = 0 then (hX10_truth 0) else (hX10_truth 1)) else (hX10_truth 1)) else (if x0 = 53 then (if x1 = 0 then (if x2 = 0 then (hX10_truth 0) else (hX10_truth 1)) else (hX10_truth 1)) else (if x0 = 54 then (if x1 = 0 then (if x2 = 0 then (hX10_truth 0) else (hX10_truth 1)) else (hX10_truth 1)) else (if x0 = 55 then (if x1 = 0 then (if x2 = 0 then (hX10_truth 0) else (hX10_truth 1)) else (hX10_truth 1)) else (if x0 = 56 then (if x1 = 0 then (if x2 = 0 then (hX10_truth 0) else (hX10_truth 1)) else (hX10_truth 1)) else (if x0 = 57 then (if x1 = 0 then (if x2 = 0 then (hX10_truth 0) else (hX10_truth 1)) else (hX10_truth 1)) else (if x0 = 58 then (if x1 = 0 then (if x2 = 0 then (hX10_truth 0) else (hX10_truth 1)) else (hX10_truth 1)) else (if x0 = 59 then (if x1 = 0 then (if x2 = 0 then (hX10_truth 0) else (hX10_truth 1)) else (hX10_truth 1)) else (if x0 = 60 then (if x2 ≤ x1 then (hX10_truth 0) else (hX10_truth 1)) else (if x0 = 61 then (if x1 = x2 then (hX10_truth 1) else (hX10_truth 0)) else (if x0 = 62 then (if x1 ≤ x2 then (hX10_truth 0) else (hX10_truth 1)) else (if x1 = 0 then (if x2 = 0 then (hX10_truth 0) else (hX10_truth 1)) else (hX10_truth 1))))))))))))))))))))))))))))
theorem sX10_done {E : px_E} {d : Nat} {w : pw_W} {Q : Option Value → pw_W → Prop} {x0 x1 x2 : Int32}   (k : Q (some (.int (hX10_done x0 x1 x2))) w) : px_Call E (d + 2) 0 0 mX10_done [.int x0, .int x1, .int x2] w Q := by
  refine px_enter (k := 0) (ls := [.int x0, .int x1, .int x2]) (by decide) (Nat.le_of_ble_eq_true rfl) rfl (px_forget (ls' := [.int x0, .int x1, .int x2]) ?_ ⟨Or.inr rfl, Or.inr rfl, Or.inr rfl, trivial⟩)
  refine px_iload_n dX10_done_0 rfl rfl ?_
  by_cases h1 : x0 = 37
  ·
    refine px_table (tgt := 144) dX10_done_1 143 (by rw [h1]; decide) (by decide) ?_
    refine px_iload_n dX10_done_144 rfl rfl ?_
    refine px_if_ne (tgt := 152) dX10_done_145 (by decide) (fun h2 => ?_) (fun h2 => ?_)
    ·
      refine px_iload_n dX10_done_152 rfl rfl ?_
      refine px_iload_n dX10_done_153 rfl rfl ?_
      refine px_irem dX10_done_154 h2 ?_
      exact px_ireturn dX10_done_155 rfl rfl (by unfold hX10_done at k; rw [if_pos h1, if_neg h2] at k; exact k)
    ·
      refine px_iconst dX10_done_148 ic_0 ?_
      refine px_goto (tgt := 155) dX10_done_149 (by decide) ?_
      exact px_ireturn dX10_done_155 rfl rfl (by unfold hX10_done at k; rw [if_pos h1, if_pos h2] at k; exact k)
  by_cases h3 : x0 = 38
  ·
    refine px_table (tgt := 198) dX10_done_1 197 (by rw [h3]; decide) (by decide) ?_
    refine px_iload_n dX10_done_198 rfl rfl ?_
    refine px_if_eq (tgt := 210) dX10_done_199 (by decide) (fun h4 => ?_) (fun h4 => ?_)
    ·
      refine px_iconst dX10_done_210 ic_0 ?_
      refine px_forget (ls' := [.null, .null, .null]) ?_ ⟨Or.inl rfl, Or.inl rfl, Or.inl rfl, trivial⟩
      refine px_callS (As := [.int 0]) (st := []) (rc := 0) (rs := 0) (mc := 0) (ms := 0) dX10_done_211 lk_10_332 rfl rfl (Nat.le_of_ble_eq_true rfl) (sX10_truth ?_)
      show px_W E mX10_done (d + 2) 0 0 214 [.null, .null, .null] [.int (hX10_truth 0)] w Q
      exact px_ireturn dX10_done_214 rfl rfl (by unfold hX10_done at k; rw [if_neg h1, if_pos h3, if_pos h4] at k; exact k)
    ·
      refine px_iload_n dX10_done_202 rfl rfl ?_
      refine px_if_eq (tgt := 210) dX10_done_203 (by decide) (fun h5 => ?_) (fun h5 => ?_)
      ·
        refine px_iconst dX10_done_210 ic_0 ?_
        refine px_forget (ls' := [.null, .null, .null]) ?_ ⟨Or.inl rfl, Or.inl rfl, Or.inl rfl, trivial⟩
        refine px_callS (As := [.int 0]) (st := []) (rc := 0) (rs := 0) (mc := 0) (ms := 0) dX10_done_211 lk_10_332 rfl rfl (Nat.le_of_ble_eq_true rfl) (sX10_truth ?_)
        show px_W E mX10_done (d + 2) 0 0 214 [.null, .null, .null] [.int (hX10_truth 0)] w Q
        exact px_ireturn dX10_done_214 rfl rfl (by unfold hX10_done at k; rw [if_neg h1, if_pos h3, if_neg h4, if_pos h5] at k; exact k)
      ·
        refine px_iconst dX10_done_206 ic_1 ?_
        refine px_goto (tgt := 211) dX10_done_207 (by decide) ?_
        refine px_forget (ls' := [.null, .null, .null]) ?_ ⟨Or.inl rfl, Or.inl rfl, Or.inl rfl, trivial⟩
        refine px_callS (As := [.int 1]) (st := []) (rc := 0) (rs := 0) (mc := 0) (ms := 0) dX10_done_211 lk_10_332 rfl rfl (Nat.le_of_ble_eq_true rfl) (sX10_truth ?_)
        show px_W E mX10_done (d + 2) 0 0 214 [.null, .null, .null] [.int (hX10_truth 1)] w Q
        exact px_ireturn dX10_done_214 rfl rfl (by unfold hX10_done at k; rw [if_neg h1, if_pos h3, if_neg h4, if_neg h5] at k; exact k)
  by_cases h6 : x0 = 39
  ·
    refine px_table (tgt := 215) dX10_done_1 214 (by rw [h6]; decide) (by decide) ?_
    refine px_iload_n dX10_done_215 rfl rfl ?_
    refine px_if_ne (tgt := 223) dX10_done_216 (by decide) (fun h7 => ?_) (fun h7 => ?_)
    ·
      refine px_iconst dX10_done_223 ic_1 ?_
      refine px_goto (tgt := 228) dX10_done_224 (by decide) ?_
      refine px_forget (ls' := [.null, .null, .null]) ?_ ⟨Or.inl rfl, Or.inl rfl, Or.inl rfl, trivial⟩
      refine px_callS (As := [.int 1]) (st := []) (rc := 0) (rs := 0) (mc := 0) (ms := 0) dX10_done_228 lk_10_332 rfl rfl (Nat.le_of_ble_eq_true rfl) (sX10_truth ?_)
      show px_W E mX10_done (d + 2) 0 0 231 [.null, .null, .null] [.int (hX10_truth 1)] w Q
      exact px_ireturn dX10_done_231 rfl rfl (by unfold hX10_done at k; rw [if_neg h1, if_neg h3, if_pos h6, if_neg h7] at k; exact k)
    ·
      refine px_iload_n dX10_done_219 rfl rfl ?_
      refine px_if_eq (tgt := 227) dX10_done_220 (by decide) (fun h8 => ?_) (fun h8 => ?_)
      ·
        refine px_iconst dX10_done_227 ic_0 ?_
        refine px_forget (ls' := [.null, .null, .null]) ?_ ⟨Or.inl rfl, Or.inl rfl, Or.inl rfl, trivial⟩
        refine px_callS (As := [.int 0]) (st := []) (rc := 0) (rs := 0) (mc := 0) (ms := 0) dX10_done_228 lk_10_332 rfl rfl (Nat.le_of_ble_eq_true rfl) (sX10_truth ?_)
        show px_W E mX10_done (d + 2) 0 0 231 [.null, .null, .null] [.int (hX10_truth 0)] w Q
        exact px_ireturn dX10_done_231 rfl rfl (by unfold hX10_done at k; rw [if_neg h1, if_neg h3, if_pos h6, if_pos h7, if_pos h8] at k; exact k)
      ·
        refine px_iconst dX10_done_223 ic_1 ?_
        refine px_goto (tgt := 228) dX10_done_224 (by decide) ?_
        refine px_forget (ls' := [.null, .null, .null]) ?_ ⟨Or.inl rfl, Or.inl rfl, Or.inl rfl, trivial⟩
        refine px_callS (As := [.int 1]) (st := []) (rc := 0) (rs := 0) (mc := 0) (ms := 0) dX10_done_228 lk_10_332 rfl rfl (Nat.le_of_ble_eq_true rfl) (sX10_truth ?_)
        show px_W E mX10_done (d + 2) 0 0 231 [.null, .null, .null] [.int (hX10_truth 1)] w Q
        exact px_ireturn dX10_done_231 rfl rfl (by unfold hX10_done at k; rw [if_neg h1, if_neg h3, if_pos h6, if_pos h7, if_neg h8] at k; exact k)
  by_cases h9 : x0 = 40
  ·
    refine px_table (tgt := 215) dX10_done_1 214 (by rw [h9]; decide) (by decide) ?_
    refine px_iload_n dX10_done_215 rfl rfl ?_
    refine px_if_ne (tgt := 223) dX10_done_216 (by decide) (fun h10 => ?_) (fun h10 => ?_)
    ·
      refine px_iconst dX10_done_223 ic_1 ?_
      refine px_goto (tgt := 228) dX10_done_224 (by decide) ?_
      refine px_forget (ls' := [.null, .null, .null]) ?_ ⟨Or.inl rfl, Or.inl rfl, Or.inl rfl, trivial⟩
      refine px_callS (As := [.int 1]) (st := []) (rc := 0) (rs := 0) (mc := 0) (ms := 0) dX10_done_228 lk_10_332 rfl rfl (Nat.le_of_ble_eq_true rfl) (sX10_truth ?_)
      show px_W E mX10_done (d + 2) 0 0 231 [.null, .null, .null] [.int (hX10_truth 1)] w Q
      exact px_ireturn dX10_done_231 rfl rfl (by unfold hX10_done at k; rw [if_neg h1, if_neg h3, if_neg h6, if_pos h9, if_neg h10] at k; exact k)
    ·
      refine px_iload_n dX10_done_219 rfl rfl ?_
      refine px_if_eq (tgt := 227) dX10_done_220 (by decide) (fun h11 => ?_) (fun h11 => ?_)
      ·
        refine px_iconst dX10_done_227 ic_0 ?_
        refine px_forget (ls' := [.null, .null, .null]) ?_ ⟨Or.inl rfl, Or.inl rfl, Or.inl rfl, trivial⟩
        refine px_callS (As := [.int 0]) (st := []) (rc := 0) (rs := 0) (mc := 0) (ms := 0) dX10_done_228 lk_10_332 rfl rfl (Nat.le_of_ble_eq_true rfl) (sX10_truth ?_)
        show px_W E mX10_done (d + 2) 0 0 231 [.null, .null, .null] [.int (hX10_truth 0)] w Q
        exact px_ireturn dX10_done_231 rfl rfl (by unfold hX10_done at k; rw [if_neg h1, if_neg h3, if_neg h6, if_pos h9, if_pos h10, if_pos h11] at k; exact k)
      ·
        refine px_iconst dX10_done_223 ic_1 ?_
        refine px_goto (tgt := 228) dX10_done_224 (by decide) ?_
        refine px_forget (ls' := [.null, .null, .null]) ?_ ⟨Or.inl rfl, Or.inl rfl, Or.inl rfl, trivial⟩
        refine px_callS (As := [.int 1]) (st := []) (rc := 0) (rs := 0) (mc := 0) (ms := 0) dX10_done_228 lk_10_332 rfl rfl (Nat.le_of_ble_eq_true rfl) (sX10_truth ?_)
        show px_W E mX10_done (d + 2) 0 0 231 [.null, .null, .null] [.int (hX10_truth 1)] w Q
        exact px_ireturn dX10_done_231 rfl rfl (by unfold hX10_done at k; rw [if_neg h1, if_neg h3, if_neg h6, if_pos h9, if_pos h10, if_neg h11] at k; exact k)
  by_cases h12 : x0 = 41
  ·
    refine px_table (tgt := 215) dX10_done_1 214 (by rw [h12]; decide) (by decide) ?_
    refine px_iload_n dX10_done_215 rfl rfl ?_
    refine px_if_ne (tgt := 223) dX10_done_216 (by decide) (fun h13 => ?_) (fun h13 => ?_)
    ·
      refine px_iconst dX10_done_223 ic_1 ?_
      refine px_goto (tgt := 228) dX10_done_224 (by decide) ?_
      refine px_forget (ls' := [.null, .null, .null]) ?_ ⟨Or.inl rfl, Or.inl rfl, Or.inl rfl, trivial⟩
      refine px_callS (As := [.int 1]) (st := []) (rc := 0) (rs := 0) (mc := 0) (ms := 0) dX10_done_228 lk_10_332 rfl rfl (Nat.le_of_ble_eq_true rfl) (sX10_truth ?_)
      show px_W E mX10_done (d + 2) 0 0 231 [.null, .null, .null] [.int (hX10_truth 1)] w Q
      exact px_ireturn dX10_done_231 rfl rfl (by unfold hX10_done at k; rw [if_neg h1, if_neg h3, if_neg h6, if_neg h9, if_pos h12, if_neg h13] at k; exact k)
    ·
      refine px_iload_n dX10_done_219 rfl rfl ?_
      refine px_if_eq (tgt := 227) dX10_done_220 (by decide) (fun h14 => ?_) (fun h14 => ?_)
      ·
        refine px_iconst dX10_done_227 ic_0 ?_
        refine px_forget (ls' := [.null, .null, .null]) ?_ ⟨Or.inl rfl, Or.inl rfl, Or.inl rfl, trivial⟩
        refine px_callS (As := [.int 0]) (st := []) (rc := 0) (rs := 0) (mc := 0) (ms := 0) dX10_done_228 lk_10_332 rfl rfl (Nat.le_of_ble_eq_true rfl) (sX10_truth ?_)
        show px_W E mX10_done (d + 2) 0 0 231 [.null, .null, .null] [.int (hX10_truth 0)] w Q
        exact px_ireturn dX10_done_231 rfl rfl (by unfold hX10_done at k; rw [if_neg h1, if_neg h3, if_neg h6, if_neg h9, if_pos h12, if_pos h13, if_pos h14] at k; exact k)
      ·
        refine px_iconst dX10_done_223 ic_1 ?_
        refine px_goto (tgt := 228) dX10_done_224 (by decide) ?_
        refine px_forget (ls' := [.null, .null, .null]) ?_ ⟨Or.inl rfl, Or.inl rfl, Or.inl rfl, trivial⟩
        refine px_callS (As := [.int 1]) (st := []) (rc := 0) (rs := 0) (mc := 0) (ms := 0) dX10_done_228 lk_10_332 rfl rfl (Nat.le_of_ble_eq_true rfl) (sX10_truth ?_)
        show px_W E mX10_done (d + 2) 0 0 231 [.null, .null, .null] [.int (hX10_truth 1)] w Q
        exact px_ireturn dX10_done_231 rfl rfl (by unfold hX10_done at k; rw [if_neg h1, if_neg h3, if_neg h6, if_neg h9, if_pos h12, if_pos h13, if_neg h14] at k; exact k)
  by_cases h15 : x0 = 42
  ·
    refine px_table (tgt := 128) dX10_done_1 127 (by rw [h15]; decide) (by decide) ?_
    refine px_iload_n dX10_done_128 rfl rfl ?_
    refine px_iload_n dX10_done_129 rfl rfl ?_
    refine px_imul dX10_done_130 ?_
    exact px_ireturn dX10_done_131 rfl rfl (by unfold hX10_done at k; rw [if_neg h1, if_neg h3, if_neg h6, if_neg h9, if_neg h12, if_pos h15] at k; exact k)
  by_cases h16 : x0 = 43
  ·
    refine px_table (tgt := 120) dX10_done_1 119 (by rw [h16]; decide) (by decide) ?_
    refine px_iload_n dX10_done_120 rfl rfl ?_
    refine px_iload_n dX10_done_121 rfl rfl ?_
    refine px_iadd dX10_done_122 ?_
    exact px_ireturn dX10_done_123 rfl rfl (by unfold hX10_done at k; rw [if_neg h1, if_neg h3, if_neg h6, if_neg h9, if_neg h12, if_neg h15, if_pos h16] at k; exact k)
  by_cases h17 : x0 = 44
  ·
    refine px_table (tgt := 215) dX10_done_1 214 (by rw [h17]; decide) (by decide) ?_
    refine px_iload_n dX10_done_215 rfl rfl ?_
    refine px_if_ne (tgt := 223) dX10_done_216 (by decide) (fun h18 => ?_) (fun h18 => ?_)
    ·
      refine px_iconst dX10_done_223 ic_1 ?_
      refine px_goto (tgt := 228) dX10_done_224 (by decide) ?_
      refine px_forget (ls' := [.null, .null, .null]) ?_ ⟨Or.inl rfl, Or.inl rfl, Or.inl rfl, trivial⟩
      refine px_callS (As := [.int 1]) (st := []) (rc := 0) (rs := 0) (mc := 0) (ms := 0) dX10_done_228 lk_10_332 rfl rfl (Nat.le_of_ble_eq_true rfl) (sX10_truth ?_)
      show px_W E mX10_done (d + 2) 0 0 231 [.null, .null, .null] [.int (hX10_truth 1)] w Q
      exact px_ireturn dX10_done_231 rfl rfl (by unfold hX10_done at k; rw [if_neg h1, if_neg h3, if_neg h6, if_neg h9, if_neg h12, if_neg h15, if_neg h16, if_pos h17, if_neg h18] at k; exact k)
    ·
      refine px_iload_n dX10_done_219 rfl rfl ?_
      refine px_if_eq (tgt := 227) dX10_done_220 (by decide) (fun h19 => ?_) (fun h19 => ?_)
      ·
        refine px_iconst dX10_done_227 ic_0 ?_
        refine px_forget (ls' := [.null, .null, .null]) ?_ ⟨Or.inl rfl, Or.inl rfl, Or.inl rfl, trivial⟩
        refine px_callS (As := [.int 0]) (st := []) (rc := 0) (rs := 0) (mc := 0) (ms := 0) dX10_done_228 lk_10_332 rfl rfl (Nat.le_of_ble_eq_true rfl) (sX10_truth ?_)
        show px_W E mX10_done (d + 2) 0 0 231 [.null, .null, .null] [.int (hX10_truth 0)] w Q
        exact px_ireturn dX10_done_231 rfl rfl (by unfold hX10_done at k; rw [if_neg h1, if_neg h3, if_neg h6, if_neg h9, if_neg h12, if_neg h15, if_neg h16, if_pos h17, if_pos h18, if_pos h19] at k; exact k)
      ·
        refine px_iconst dX10_done_223 ic_1 ?_
        refine px_goto (tgt := 228) dX10_done_224 (by decide) ?_
        refine px_forget (ls' := [.null, .null, .null]) ?_ ⟨Or.inl rfl, Or.inl rfl, Or.inl rfl, trivial⟩
        refine px_callS (As := [.int 1]) (st := []) (rc := 0) (rs := 0) (mc := 0) (ms := 0) dX10_done_228 lk_10_332 rfl rfl (Nat.le_of_ble_eq_true rfl) (sX10_truth ?_)
        show px_W E mX10_done (d + 2) 0 0 231 [.null, .null, .null] [.int (hX10_truth 1)] w Q
        exact px_ireturn dX10_done_231 rfl rfl (by unfold hX10_done at k; rw [if_neg h1, if_neg h3, if_neg h6, if_neg h9, if_neg h12, if_neg h15, if_neg h16, if_pos h17, if_pos h18, if_neg h19] at k; exact k)
  by_cases h20 : x0 = 45
  ·
    refine px_table (tgt := 124) dX10_done_1 123 (by rw [h20]; decide) (by decide) ?_
    refine px_iload_n dX10_done_124 rfl rfl ?_
    refine px_iload_n dX10_done_125 rfl rfl ?_
    refine px_isub dX10_done_126 ?_
    exact px_ireturn dX10_done_127 rfl rfl (by unfold hX10_done at k; rw [if_neg h1, if_neg h3, if_neg h6, if_neg h9, if_neg h12, if_neg h15, if_neg h16, if_neg h17, if_pos h20] at k; exact k)
  by_cases h21 : x0 = 46
  ·
    refine px_table (tgt := 215) dX10_done_1 214 (by rw [h21]; decide) (by decide) ?_
    refine px_iload_n dX10_done_215 rfl rfl ?_
    refine px_if_ne (tgt := 223) dX10_done_216 (by decide) (fun h22 => ?_) (fun h22 => ?_)
    ·
      refine px_iconst dX10_done_223 ic_1 ?_
      refine px_goto (tgt := 228) dX10_done_224 (by decide) ?_
      refine px_forget (ls' := [.null, .null, .null]) ?_ ⟨Or.inl rfl, Or.inl rfl, Or.inl rfl, trivial⟩
      refine px_callS (As := [.int 1]) (st := []) (rc := 0) (rs := 0) (mc := 0) (ms := 0) dX10_done_228 lk_10_332 rfl rfl (Nat.le_of_ble_eq_true rfl) (sX10_truth ?_)
      show px_W E mX10_done (d + 2) 0 0 231 [.null, .null, .null] [.int (hX10_truth 1)] w Q
      exact px_ireturn dX10_done_231 rfl rfl (by unfold hX10_done at k; rw [if_neg h1, if_neg h3, if_neg h6, if_neg h9, if_neg h12, if_neg h15, if_neg h16, if_neg h17, if_neg h20, if_pos h21, if_neg h22] at k; exact k)
    ·
      refine px_iload_n dX10_done_219 rfl rfl ?_
      refine px_if_eq (tgt := 227) dX10_done_220 (by decide) (fun h23 => ?_) (fun h23 => ?_)
      ·
        refine px_iconst dX10_done_227 ic_0 ?_
        refine px_forget (ls' := [.null, .null, .null]) ?_ ⟨Or.inl rfl, Or.inl rfl, Or.inl rfl, trivial⟩
        refine px_callS (As := [.int 0]) (st := []) (rc := 0) (rs := 0) (mc := 0) (ms := 0) dX10_done_228 lk_10_332 rfl rfl (Nat.le_of_ble_eq_true rfl) (sX10_truth ?_)
        show px_W E mX10_done (d + 2) 0 0 231 [.null, .null, .null] [.int (hX10_truth 0)] w Q
        exact px_ireturn dX10_done_231 rfl rfl (by unfold hX10_done at k; rw [if_neg h1, if_neg h3, if_neg h6, if_neg h9, if_neg h12, if_neg h15, if_neg h16, if_neg h17, if_neg h20, if_pos h21, if_pos h22, if_pos h23] at k; exact k)
      ·
        refine px_iconst dX10_done_223 ic_1 ?_
        refine px_goto (tgt := 228) dX10_done_224 (by decide) ?_
        refine px_forget (ls' := [.null, .null, .null]) ?_ ⟨Or.inl rfl, Or.inl rfl, Or.inl rfl, trivial⟩
        refine px_callS (As := [.int 1]) (st := []) (rc := 0) (rs := 0) (mc := 0) (ms := 0) dX10_done_228 lk_10_332 rfl rfl (Nat.le_of_ble_eq_true rfl) (sX10_truth ?_)
        show px_W E mX10_done (d + 2) 0 0 231 [.null, .null, .null] [.int (hX10_truth 1)] w Q
        exact px_ireturn dX10_done_231 rfl rfl (by unfold hX10_done at k; rw [if_neg h1, if_neg h3, if_neg h6, if_neg h9, if_neg h12, if_neg h15, if_neg h16, if_neg h17, if_neg h20, if_pos h21, if_pos h22, if_neg h23] at k; exact k)
  by_cases h24 : x0 = 47
  ·
    refine px_table (tgt := 132) dX10_done_1 131 (by rw [h24]; decide) (by decide) ?_
    refine px_iload_n dX10_done_132 rfl rfl ?_
    refine px_if_ne (tgt := 140) dX10_done_133 (by decide) (fun h25 => ?_) (fun h25 => ?_)
    ·
      refine px_iload_n dX10_done_140 rfl rfl ?_
      refine px_iload_n dX10_done_141 rfl rfl ?_
      refine px_idiv dX10_done_142 h25 ?_
      exact px_ireturn dX10_done_143 rfl rfl (by unfold hX10_done at k; rw [if_neg h1, if_neg h3, if_neg h6, if_neg h9, if_neg h12, if_neg h15, if_neg h16, if_neg h17, if_neg h20, if_neg h21, if_pos h24, if_neg h25] at k; exact k)
    ·
      refine px_iconst dX10_done_136 ic_0 ?_
      refine px_goto (tgt := 143) dX10_done_137 (by decide) ?_
      exact px_ireturn dX10_done_143 rfl rfl (by unfold hX10_done at k; rw [if_neg h1, if_neg h3, if_neg h6, if_neg h9, if_neg h12, if_neg h15, if_neg h16, if_neg h17, if_neg h20, if_neg h21, if_pos h24, if_pos h25] at k; exact k)
  by_cases h26 : x0 = 48
  ·
    refine px_table (tgt := 215) dX10_done_1 214 (by rw [h26]; decide) (by decide) ?_
    refine px_iload_n dX10_done_215 rfl rfl ?_
    refine px_if_ne (tgt := 223) dX10_done_216 (by decide) (fun h27 => ?_) (fun h27 => ?_)
    ·
      refine px_iconst dX10_done_223 ic_1 ?_
      refine px_goto (tgt := 228) dX10_done_224 (by decide) ?_
      refine px_forget (ls' := [.null, .null, .null]) ?_ ⟨Or.inl rfl, Or.inl rfl, Or.inl rfl, trivial⟩
      refine px_callS (As := [.int 1]) (st := []) (rc := 0) (rs := 0) (mc := 0) (ms := 0) dX10_done_228 lk_10_332 rfl rfl (Nat.le_of_ble_eq_true rfl) (sX10_truth ?_)
      show px_W E mX10_done (d + 2) 0 0 231 [.null, .null, .null] [.int (hX10_truth 1)] w Q
      exact px_ireturn dX10_done_231 rfl rfl (by unfold hX10_done at k; rw [if_neg h1, if_neg h3, if_neg h6, if_neg h9, if_neg h12, if_neg h15, if_neg h16, if_neg h17, if_neg h20, if_neg h21, if_neg h24, if_pos h26, if_neg h27] at k; exact k)
    ·
      refine px_iload_n dX10_done_219 rfl rfl ?_
      refine px_if_eq (tgt := 227) dX10_done_220 (by decide) (fun h28 => ?_) (fun h28 => ?_)
      ·
        refine px_iconst dX10_done_227 ic_0 ?_
        refine px_forget (ls' := [.null, .null, .null]) ?_ ⟨Or.inl rfl, Or.inl rfl, Or.inl rfl, trivial⟩
        refine px_callS (As := [.int 0]) (st := []) (rc := 0) (rs := 0) (mc := 0) (ms := 0) dX10_done_228 lk_10_332 rfl rfl (Nat.le_of_ble_eq_true rfl) (sX10_truth ?_)
        show px_W E mX10_done (d + 2) 0 0 231 [.null, .null, .null] [.int (hX10_truth 0)] w Q
        exact px_ireturn dX10_done_231 rfl rfl (by unfold hX10_done at k; rw [if_neg h1, if_neg h3, if_neg h6, if_neg h9, if_neg h12, if_neg h15, if_neg h16, if_neg h17, if_neg h20, if_neg h21, if_neg h24, if_pos h26, if_pos h27, if_pos h28] at k; exact k)
      ·
        refine px_iconst dX10_done_223 ic_1 ?_
        refine px_goto (tgt := 228) dX10_done_224 (by decide) ?_
        refine px_forget (ls' := [.null, .null, .null]) ?_ ⟨Or.inl rfl, Or.inl rfl, Or.inl rfl, trivial⟩
        refine px_callS (As := [.int 1]) (st := []) (rc := 0) (rs := 0) (mc := 0) (ms := 0) dX10_done_228 lk_10_332 rfl rfl (Nat.le_of_ble_eq_true rfl) (sX10_truth ?_)
        show px_W E mX10_done (d + 2) 0 0 231 [.null, .null, .null] [.int (hX10_truth 1)] w Q
        exact px_ireturn dX10_done_231 rfl rfl (by unfold hX10_done at k; rw [if_neg h1, if_neg h3, if_neg h6, if_neg h9, if_neg h12, if_neg h15, if_neg h16, if_neg h17, if_neg h20, if_neg h21, if_neg h24, if_pos h26, if_pos h27, if_neg h28] at k; exact k)
  by_cases h29 : x0 = 49
  ·
    refine px_table (tgt := 215) dX10_done_1 214 (by rw [h29]; decide) (by decide) ?_
    refine px_iload_n dX10_done_215 rfl rfl ?_
    refine px_if_ne (tgt := 223) dX10_done_216 (by decide) (fun h30 => ?_) (fun h30 => ?_)
    ·
      refine px_iconst dX10_done_223 ic_1 ?_
      refine px_goto (tgt := 228) dX10_done_224 (by decide) ?_
      refine px_forget (ls' := [.null, .null, .null]) ?_ ⟨Or.inl rfl, Or.inl rfl, Or.inl rfl, trivial⟩
      refine px_callS (As := [.int 1]) (st := []) (rc := 0) (rs := 0) (mc := 0) (ms := 0) dX10_done_228 lk_10_332 rfl rfl (Nat.le_of_ble_eq_true rfl) (sX10_truth ?_)
      show px_W E mX10_done (d + 2) 0 0 231 [.null, .null, .null] [.int (hX10_truth 1)] w Q
      exact px_ireturn dX10_done_231 rfl rfl (by unfold hX10_done at k; rw [if_neg h1, if_neg h3, if_neg h6, if_neg h9, if_neg h12, if_neg h15, if_neg h16, if_neg h17, if_neg h20, if_neg h21, if_neg h24, if_neg h26, if_pos h29, if_neg h30] at k; exact k)
    ·
      refine px_iload_n dX10_done_219 rfl rfl ?_
      refine px_if_eq (tgt := 227) dX10_done_220 (by decide) (fun h31 => ?_) (fun h31 => ?_)
      ·
        refine px_iconst dX10_done_227 ic_0 ?_
        refine px_forget (ls' := [.null, .null, .null]) ?_ ⟨Or.inl rfl, Or.inl rfl, Or.inl rfl, trivial⟩
        refine px_callS (As := [.int 0]) (st := []) (rc := 0) (rs := 0) (mc := 0) (ms := 0) dX10_done_228 lk_10_332 rfl rfl (Nat.le_of_ble_eq_true rfl) (sX10_truth ?_)
        show px_W E mX10_done (d + 2) 0 0 231 [.null, .null, .null] [.int (hX10_truth 0)] w Q
        exact px_ireturn dX10_done_231 rfl rfl (by unfold hX10_done at k; rw [if_neg h1, if_neg h3, if_neg h6, if_neg h9, if_neg h12, if_neg h15, if_neg h16, if_neg h17, if_neg h20, if_neg h21, if_neg h24, if_neg h26, if_pos h29, if_pos h30, if_pos h31] at k; exact k)
      ·
        refine px_iconst dX10_done_223 ic_1 ?_
        refine px_goto (tgt := 228) dX10_done_224 (by decide) ?_
        refine px_forget (ls' := [.null, .null, .null]) ?_ ⟨Or.inl rfl, Or.inl rfl, Or.inl rfl, trivial⟩
        refine px_callS (As := [.int 1]) (st := []) (rc := 0) (rs := 0) (mc := 0) (ms := 0) dX10_done_228 lk_10_332 rfl rfl (Nat.le_of_ble_eq_true rfl) (sX10_truth ?_)
        show px_W E mX10_done (d + 2) 0 0 231 [.null, .null, .null] [.int (hX10_truth 1)] w Q
        exact px_ireturn dX10_done_231 rfl rfl (by unfold hX10_done at k; rw [if_neg h1, if_neg h3, if_neg h6, if_neg h9, if_neg h12, if_neg h15, if_neg h16, if_neg h17, if_neg h20, if_neg h21, if_neg h24, if_neg h26, if_pos h29, if_pos h30, if_neg h31] at k; exact k)
  by_cases h32 : x0 = 50
  ·
    refine px_table (tgt := 215) dX10_done_1 214 (by rw [h32]; decide) (by decide) ?_
    refine px_iload_n dX10_done_215 rfl rfl ?_
    refine px_if_ne (tgt := 223) dX10_done_216 (by decide) (fun h33 => ?_) (fun h33 => ?_)
    ·
      refine px_iconst dX10_done_223 ic_1 ?_
      refine px_goto (tgt := 228) dX10_done_224 (by decide) ?_
      refine px_forget (ls' := [.null, .null, .null]) ?_ ⟨Or.inl rfl, Or.inl rfl, Or.inl rfl, trivial⟩
      refine px_callS (As := [.int 1]) (st := []) (rc := 0) (rs := 0) (mc := 0) (ms := 0) dX10_done_228 lk_10_332 rfl rfl (Nat.le_of_ble_eq_true rfl) (sX10_truth ?_)
      show px_W E mX10_done (d + 2) 0 0 231 [.null, .null, .null] [.int (hX10_truth 1)] w Q
      exact px_ireturn dX10_done_231 rfl rfl (by unfold hX10_done at k; rw [if_neg h1, if_neg h3, if_neg h6, if_neg h9, if_neg h12, if_neg h15, if_neg h16, if_neg h17, if_neg h20, if_neg h21, if_neg h24, if_neg h26, if_neg h29, if_pos h32, if_neg h33] at k; exact k)
    ·
      refine px_iload_n dX10_done_219 rfl rfl ?_
      refine px_if_eq (tgt := 227) dX10_done_220 (by decide) (fun h34 => ?_) (fun h34 => ?_)
      ·
        refine px_iconst dX10_done_227 ic_0 ?_
        refine px_forget (ls' := [.null, .null, .null]) ?_ ⟨Or.inl rfl, Or.inl rfl, Or.inl rfl, trivial⟩
        refine px_callS (As := [.int 0]) (st := []) (rc := 0) (rs := 0) (mc := 0) (ms := 0) dX10_done_228 lk_10_332 rfl rfl (Nat.le_of_ble_eq_true rfl) (sX10_truth ?_)
        show px_W E mX10_done (d + 2) 0 0 231 [.null, .null, .null] [.int (hX10_truth 0)] w Q
        exact px_ireturn dX10_done_231 rfl rfl (by unfold hX10_done at k; rw [if_neg h1, if_neg h3, if_neg h6, if_neg h9, if_neg h12, if_neg h15, if_neg h16, if_neg h17, if_neg h20, if_neg h21, if_neg h24, if_neg h26, if_neg h29, if_pos h32, if_pos h33, if_pos h34] at k; exact k)
      ·
        refine px_iconst dX10_done_223 ic_1 ?_
        refine px_goto (tgt := 228) dX10_done_224 (by decide) ?_
        refine px_forget (ls' := [.null, .null, .null]) ?_ ⟨Or.inl rfl, Or.inl rfl, Or.inl rfl, trivial⟩
        refine px_callS (As := [.int 1]) (st := []) (rc := 0) (rs := 0) (mc := 0) (ms := 0) dX10_done_228 lk_10_332 rfl rfl (Nat.le_of_ble_eq_true rfl) (sX10_truth ?_)
        show px_W E mX10_done (d + 2) 0 0 231 [.null, .null, .null] [.int (hX10_truth 1)] w Q
        exact px_ireturn dX10_done_231 rfl rfl (by unfold hX10_done at k; rw [if_neg h1, if_neg h3, if_neg h6, if_neg h9, if_neg h12, if_neg h15, if_neg h16, if_neg h17, if_neg h20, if_neg h21, if_neg h24, if_neg h26, if_neg h29, if_pos h32, if_pos h33, if_neg h34] at k; exact k)
  by_cases h35 : x0 = 51
  ·
    refine px_table (tgt := 215) dX10_done_1 214 (by rw [h35]; decide) (by decide) ?_
    refine px_iload_n dX10_done_215 rfl rfl ?_
    refine px_if_ne (tgt := 223) dX10_done_216 (by decide) (fun h36 => ?_) (fun h36 => ?_)
    ·
      refine px_iconst dX10_done_223 ic_1 ?_
      refine px_goto (tgt := 228) dX10_done_224 (by decide) ?_
      refine px_forget (ls' := [.null, .null, .null]) ?_ ⟨Or.inl rfl, Or.inl rfl, Or.inl rfl, trivial⟩
      refine px_callS (As := [.int 1]) (st := []) (rc := 0) (rs := 0) (mc := 0) (ms := 0) dX10_done_228 lk_10_332 rfl rfl (Nat.le_of_ble_eq_true rfl) (sX10_truth ?_)
      show px_W E mX10_done (d + 2) 0 0 231 [.null, .null, .null] [.int (hX10_truth 1)] w Q
      exact px_ireturn dX10_done_231 rfl rfl (by unfold hX10_done at k; rw [if_neg h1, if_neg h3, if_neg h6, if_neg h9, if_neg h12, if_neg h15, if_neg h16, if_neg h17, if_neg h20, if_neg h21, if_neg h24, if_neg h26, if_neg h29, if_neg h32, if_pos h35, if_neg h36] at k; exact k)
    ·
      refine px_iload_n dX10_done_219 rfl rfl ?_
      refine px_if_eq (tgt := 227) dX10_done_220 (by decide) (fun h37 => ?_) (fun h37 => ?_)
      ·
        refine px_iconst dX10_done_227 ic_0 ?_
        refine px_forget (ls' := [.null, .null, .null]) ?_ ⟨Or.inl rfl, Or.inl rfl, Or.inl rfl, trivial⟩
        refine px_callS (As := [.int 0]) (st := []) (rc := 0) (rs := 0) (mc := 0) (ms := 0) dX10_done_228 lk_10_332 rfl rfl (Nat.le_of_ble_eq_true rfl) (sX10_truth ?_)
        show px_W E mX10_done (d + 2) 0 0 231 [.null, .null, .null] [.int (hX10_truth 0)] w Q
        exact px_ireturn dX10_done_231 rfl rfl (by unfold hX10_done at k; rw [if_neg h1, if_neg h3, if_neg h6, if_neg h9, if_neg h12, if_neg h15, if_neg h16, if_neg h17, if_neg h20, if_neg h21, if_neg h24, if_neg h26, if_neg h29, if_neg h32, if_pos h35, if_pos h36, if_pos h37] at k; exact k)
      ·
        refine px_iconst dX10_done_223 ic_1 ?_
        refine px_goto (tgt := 228) dX10_done_224 (by decide) ?_
        refine px_forget (ls' := [.null, .null, .null]) ?_ ⟨Or.inl rfl, Or.inl rfl, Or.inl rfl, trivial⟩
        refine px_callS (As := [.int 1]) (st := []) (rc := 0) (rs := 0) (mc := 0) (ms := 0) dX10_done_228 lk_10_332 rfl rfl (Nat.le_of_ble_eq_true rfl) (sX10_truth ?_)
        show px_W E mX10_done (d + 2) 0 0 231 [.null, .null, .null] [.int (hX10_truth 1)] w Q
        exact px_ireturn dX10_done_231 rfl rfl (by unfold hX10_done at k; rw [if_neg h1, if_neg h3, if_neg h6, if_neg h9, if_neg h12, if_neg h15, if_neg h16, if_neg h17, if_neg h20, if_neg h21, if_neg h24, if_neg h26, if_neg h29, if_neg h32, if_pos h35, if_pos h36, if_neg h37] at k; exact k)
  by_cases h38 : x0 = 52
  ·
    refine px_table (tgt := 215) dX10_done_1 214 (by rw [h38]; decide) (by decide) ?_
    refine px_iload_n dX10_done_215 rfl rfl ?_
    refine px_if_ne (tgt := 223) dX10_done_216 (by decide) (fun h39 => ?_) (fun h39 => ?_)
    ·
      refine px_iconst dX10_done_223 ic_1 ?_
      refine px_goto (tgt := 228) dX10_done_224 (by decide) ?_
      refine px_forget (ls' := [.null, .null, .null]) ?_ ⟨Or.inl rfl, Or.inl rfl, Or.inl rfl, trivial⟩
      refine px_callS (As := [.int 1]) (st := []) (rc := 0) (rs := 0) (mc := 0) (ms := 0) dX10_done_228 lk_10_332 rfl rfl (Nat.le_of_ble_eq_true rfl) (sX10_truth ?_)
      show px_W E mX10_done (d + 2) 0 0 231 [.null, .null, .null] [.int (hX10_truth 1)] w Q
      exact px_ireturn dX10_done_231 rfl rfl (by unfold hX10_done at k; rw [if_neg h1, if_neg h3, if_neg h6, if_neg h9, if_neg h12, if_neg h15, if_neg h16, if_neg h17, if_neg h20, if_neg h21, if_neg h24, if_neg h26, if_neg h29, if_neg h32, if_neg h35, if_pos h38, if_neg h39] at k; exact k)
    ·
      refine px_iload_n dX10_done_219 rfl rfl ?_
      refine px_if_eq (tgt := 227) dX10_done_220 (by decide) (fun h40 => ?_) (fun h40 => ?_)
      ·
        refine px_iconst dX10_done_227 ic_0 ?_
        refine px_forget (ls' := [.null, .null, .null]) ?_ ⟨Or.inl rfl, Or.inl rfl, Or.inl rfl, trivial⟩
        refine px_callS (As := [.int 0]) (st := []) (rc := 0) (rs := 0) (mc := 0) (ms := 0) dX10_done_228 lk_10_332 rfl rfl (Nat.le_of_ble_eq_true rfl) (sX10_truth ?_)
        show px_W E mX10_done (d + 2) 0 0 231 [.null, .null, .null] [.int (hX10_truth 0)] w Q
        exact px_ireturn dX10_done_231 rfl rfl (by unfold hX10_done at k; rw [if_neg h1, if_neg h3, if_neg h6, if_neg h9, if_neg h12, if_neg h15, if_neg h16, if_neg h17, if_neg h20, if_neg h21, if_neg h24, if_neg h26, if_neg h29, if_neg h32, if_neg h35, if_pos h38, if_pos h39, if_pos h40] at k; exact k)
      ·
        refine px_iconst dX10_done_223 ic_1 ?_
        refine px_goto (tgt := 228) dX10_done_224 (by decide) ?_
        refine px_forget (ls' := [.null, .null, .null]) ?_ ⟨Or.inl rfl, Or.inl rfl, Or.inl rfl, trivial⟩
        refine px_callS (As := [.int 1]) (st := []) (rc := 0) (rs := 0) (mc := 0) (ms := 0) dX10_done_228 lk_10_332 rfl rfl (Nat.le_of_ble_eq_true rfl) (sX10_truth ?_)
        show px_W E mX10_done (d + 2) 0 0 231 [.null, .null, .null] [.int (hX10_truth 1)] w Q
        exact px_ireturn dX10_done_231 rfl rfl (by unfold hX10_done at k; rw [if_neg h1, if_neg h3, if_neg h6, if_neg h9, if_neg h12, if_neg h15, if_neg h16, if_neg h17, if_neg h20, if_neg h21, if_neg h24, if_neg h26, if_neg h29, if_neg h32, if_neg h35, if_pos h38, if_pos h39, if_neg h40] at k; exact k)
  by_cases h41 : x0 = 53
  ·
    refine px_table (tgt := 215) dX10_done_1 214 (by rw [h41]; decide) (by decide) ?_
    refine px_iload_n dX10_done_215 rfl rfl ?_
    refine px_if_ne (tgt := 223) dX10_done_216 (by decide) (fun h42 => ?_) (fun h42 => ?_)
    ·
      refine px_iconst dX10_done_223 ic_1 ?_
      refine px_goto (tgt := 228) dX10_done_224 (by decide) ?_
      refine px_forget (ls' := [.null, .null, .null]) ?_ ⟨Or.inl rfl, Or.inl rfl, Or.inl rfl, trivial⟩
      refine px_callS (As := [.int 1]) (st := []) (rc := 0) (rs := 0) (mc := 0) (ms := 0) dX10_done_228 lk_10_332 rfl rfl (Nat.le_of_ble_eq_true rfl) (sX10_truth ?_)
      show px_W E mX10_done (d + 2) 0 0 231 [.null, .null, .null] [.int (hX10_truth 1)] w Q
      exact px_ireturn dX10_done_231 rfl rfl (by unfold hX10_done at k; rw [if_neg h1, if_neg h3, if_neg h6, if_neg h9, if_neg h12, if_neg h15, if_neg h16, if_neg h17, if_neg h20, if_neg h21, if_neg h24, if_neg h26, if_neg h29, if_neg h32, if_neg h35, if_neg h38, if_pos h41, if_neg h42] at k; exact k)
    ·
      refine px_iload_n dX10_done_219 rfl rfl ?_
      refine px_if_eq (tgt := 227) dX10_done_220 (by decide) (fun h43 => ?_) (fun h43 => ?_)
      ·
        refine px_iconst dX10_done_227 ic_0 ?_
        refine px_forget (ls' := [.null, .null, .null]) ?_ ⟨Or.inl rfl, Or.inl rfl, Or.inl rfl, trivial⟩
        refine px_callS (As := [.int 0]) (st := []) (rc := 0) (rs := 0) (mc := 0) (ms := 0) dX10_done_228 lk_10_332 rfl rfl (Nat.le_of_ble_eq_true rfl) (sX10_truth ?_)
        show px_W E mX10_done (d + 2) 0 0 231 [.null, .null, .null] [.int (hX10_truth 0)] w Q
        exact px_ireturn dX10_done_231 rfl rfl (by unfold hX10_done at k; rw [if_neg h1, if_neg h3, if_neg h6, if_neg h9, if_neg h12, if_neg h15, if_neg h16, if_neg h17, if_neg h20, if_neg h21, if_neg h24, if_neg h26, if_neg h29, if_neg h32, if_neg h35, if_neg h38, if_pos h41, if_pos h42, if_pos h43] at k; exact k)
      ·
        refine px_iconst dX10_done_223 ic_1 ?_
        refine px_goto (tgt := 228) dX10_done_224 (by decide) ?_
        refine px_forget (ls' := [.null, .null, .null]) ?_ ⟨Or.inl rfl, Or.inl rfl, Or.inl rfl, trivial⟩
        refine px_callS (As := [.int 1]) (st := []) (rc := 0) (rs := 0) (mc := 0) (ms := 0) dX10_done_228 lk_10_332 rfl rfl (Nat.le_of_ble_eq_true rfl) (sX10_truth ?_)
        show px_W E mX10_done (d + 2) 0 0 231 [.null, .null, .null] [.int (hX10_truth 1)] w Q
        exact px_ireturn dX10_done_231 rfl rfl (by unfold hX10_done at k; rw [if_neg h1, if_neg h3, if_neg h6, if_neg h9, if_neg h12, if_neg h15, if_neg h16, if_neg h17, if_neg h20, if_neg h21, if_neg h24, if_neg h26, if_neg h29, if_neg h32, if_neg h35, if_neg h38, if_pos h41, if_pos h42, if_neg h43] at k; exact k)
  by_cases h44 : x0 = 54
  ·
    refine px_table (tgt := 215) dX10_done_1 214 (by rw [h44]; decide) (by decide) ?_
    refine px_iload_n dX10_done_215 rfl rfl ?_
    refine px_if_ne (tgt := 223) dX10_done_216 (by decide) (fun h45 => ?_) (fun h45 => ?_)
    ·
      refine px_iconst dX10_done_223 ic_1 ?_
      refine px_goto (tgt := 228) dX10_done_224 (by decide) ?_
      refine px_forget (ls' := [.null, .null, .null]) ?_ ⟨Or.inl rfl, Or.inl rfl, Or.inl rfl, trivial⟩
      refine px_callS (As := [.int 1]) (st := []) (rc := 0) (rs := 0) (mc := 0) (ms := 0) dX10_done_228 lk_10_332 rfl rfl (Nat.le_of_ble_eq_true rfl) (sX10_truth ?_)
      show px_W E mX10_done (d + 2) 0 0 231 [.null, .null, .null] [.int (hX10_truth 1)] w Q
      exact px_ireturn dX10_done_231 rfl rfl (by unfold hX10_done at k; rw [if_neg h1, if_neg h3, if_neg h6, if_neg h9, if_neg h12, if_neg h15, if_neg h16, if_neg h17, if_neg h20, if_neg h21, if_neg h24, if_neg h26, if_neg h29, if_neg h32, if_neg h35, if_neg h38, if_neg h41, if_pos h44, if_neg h45] at k; exact k)
    ·
      refine px_iload_n dX10_done_219 rfl rfl ?_
      refine px_if_eq (tgt := 227) dX10_done_220 (by decide) (fun h46 => ?_) (fun h46 => ?_)
      ·
        refine px_iconst dX10_done_227 ic_0 ?_
        refine px_forget (ls' := [.null, .null, .null]) ?_ ⟨Or.inl rfl, Or.inl rfl, Or.inl rfl, trivial⟩
        refine px_callS (As := [.int 0]) (st := []) (rc := 0) (rs := 0) (mc := 0) (ms := 0) dX10_done_228 lk_10_332 rfl rfl (Nat.le_of_ble_eq_true rfl) (sX10_truth ?_)
        show px_W E mX10_done (d + 2) 0 0 231 [.null, .null, .null] [.int (hX10_truth 0)] w Q
        exact px_ireturn dX10_done_231 rfl rfl (by unfold hX10_done at k; rw [if_neg h1, if_neg h3, if_neg h6, if_neg h9, if_neg h12, if_neg h15, if_neg h16, if_neg h17, if_neg h20, if_neg h21, if_neg h24, if_neg h26, if_neg h29, if_neg h32, if_neg h35, if_neg h38, if_neg h41, if_pos h44, if_pos h45, if_pos h46] at k; exact k)
      ·
        refine px_iconst dX10_done_223 ic_1 ?_
        refine px_goto (tgt := 228) dX10_done_224 (by decide) ?_
        refine px_forget (ls' := [.null, .null, .null]) ?_ ⟨Or.inl rfl, Or.inl rfl, Or.inl rfl, trivial⟩
        refine px_callS (As := [.int 1]) (st := []) (rc := 0) (rs := 0) (mc := 0) (ms := 0) dX10_done_228 lk_10_332 rfl rfl (Nat.le_of_ble_eq_true rfl) (sX10_truth ?_)
        show px_W E mX10_done (d + 2) 0 0 231 [.null, .null, .null] [.int (hX10_truth 1)] w Q
        exact px_ireturn dX10_done_231 rfl rfl (by unfold hX10_done at k; rw [if_neg h1, if_neg h3, if_neg h6, if_neg h9, if_neg h12, if_neg h15, if_neg h16, if_neg h17, if_neg h20, if_neg h21, if_neg h24, if_neg h26, if_neg h29, if_neg h32, if_neg h35, if_neg h38, if_neg h41, if_pos h44, if_pos h45, if_neg h46] at k; exact k)
  by_cases h47 : x0 = 55
  ·
    refine px_table (tgt := 215) dX10_done_1 214 (by rw [h47]; decide) (by decide) ?_
    refine px_iload_n dX10_done_215 rfl rfl ?_
    refine px_if_ne (tgt := 223) dX10_done_216 (by decide) (fun h48 => ?_) (fun h48 => ?_)
    ·
      refine px_iconst dX10_done_223 ic_1 ?_
      refine px_goto (tgt := 228) dX10_done_224 (by decide) ?_
      refine px_forget (ls' := [.null, .null, .null]) ?_ ⟨Or.inl rfl, Or.inl rfl, Or.inl rfl, trivial⟩
      refine px_callS (As := [.int 1]) (st := []) (rc := 0) (rs := 0) (mc := 0) (ms := 0) dX10_done_228 lk_10_332 rfl rfl (Nat.le_of_ble_eq_true rfl) (sX10_truth ?_)
      show px_W E mX10_done (d + 2) 0 0 231 [.null, .null, .null] [.int (hX10_truth 1)] w Q
      exact px_ireturn dX10_done_231 rfl rfl (by unfold hX10_done at k; rw [if_neg h1, if_neg h3, if_neg h6, if_neg h9, if_neg h12, if_neg h15, if_neg h16, if_neg h17, if_neg h20, if_neg h21, if_neg h24, if_neg h26, if_neg h29, if_neg h32, if_neg h35, if_neg h38, if_neg h41, if_neg h44, if_pos h47, if_neg h48] at k; exact k)
    ·
      refine px_iload_n dX10_done_219 rfl rfl ?_
      refine px_if_eq (tgt := 227) dX10_done_220 (by decide) (fun h49 => ?_) (fun h49 => ?_)
      ·
        refine px_iconst dX10_done_227 ic_0 ?_
        refine px_forget (ls' := [.null, .null, .null]) ?_ ⟨Or.inl rfl, Or.inl rfl, Or.inl rfl, trivial⟩
        refine px_callS (As := [.int 0]) (st := []) (rc := 0) (rs := 0) (mc := 0) (ms := 0) dX10_done_228 lk_10_332 rfl rfl (Nat.le_of_ble_eq_true rfl) (sX10_truth ?_)
        show px_W E mX10_done (d + 2) 0 0 231 [.null, .null, .null] [.int (hX10_truth 0)] w Q
        exact px_ireturn dX10_done_231 rfl rfl (by unfold hX10_done at k; rw [if_neg h1, if_neg h3, if_neg h6, if_neg h9, if_neg h12, if_neg h15, if_neg h16, if_neg h17, if_neg h20, if_neg h21, if_neg h24, if_neg h26, if_neg h29, if_neg h32, if_neg h35, if_neg h38, if_neg h41, if_neg h44, if_pos h47, if_pos h48, if_pos h49] at k; exact k)
      ·
        refine px_iconst dX10_done_223 ic_1 ?_
        refine px_goto (tgt := 228) dX10_done_224 (by decide) ?_
        refine px_forget (ls' := [.null, .null, .null]) ?_ ⟨Or.inl rfl, Or.inl rfl, Or.inl rfl, trivial⟩
        refine px_callS (As := [.int 1]) (st := []) (rc := 0) (rs := 0) (mc := 0) (ms := 0) dX10_done_228 lk_10_332 rfl rfl (Nat.le_of_ble_eq_true rfl) (sX10_truth ?_)
        show px_W E mX10_done (d + 2) 0 0 231 [.null, .null, .null] [.int (hX10_truth 1)] w Q
        exact px_ireturn dX10_done_231 rfl rfl (by unfold hX10_done at k; rw [if_neg h1, if_neg h3, if_neg h6, if_neg h9, if_neg h12, if_neg h15, if_neg h16, if_neg h17, if_neg h20, if_neg h21, if_neg h24, if_neg h26, if_neg h29, if_neg h32, if_neg h35, if_neg h38, if_neg h41, if_neg h44, if_pos h47, if_pos h48, if_neg h49] at k; exact k)
  by_cases h50 : x0 = 56
  ·
    refine px_table (tgt := 215) dX10_done_1 214 (by rw [h50]; decide) (by decide) ?_
    refine px_iload_n dX10_done_215 rfl rfl ?_
    refine px_if_ne (tgt := 223) dX10_done_216 (by decide) (fun h51 => ?_) (fun h51 => ?_)
    ·
      refine px_iconst dX10_done_223 ic_1 ?_
      refine px_goto (tgt := 228) dX10_done_224 (by decide) ?_
      refine px_forget (ls' := [.null, .null, .null]) ?_ ⟨Or.inl rfl, Or.inl rfl, Or.inl rfl, trivial⟩
      refine px_callS (As := [.int 1]) (st := []) (rc := 0) (rs := 0) (mc := 0) (ms := 0) dX10_done_228 lk_10_332 rfl rfl (Nat.le_of_ble_eq_true rfl) (sX10_truth ?_)
      show px_W E mX10_done (d + 2) 0 0 231 [.null, .null, .null] [.int (hX10_truth 1)] w Q
      exact px_ireturn dX10_done_231 rfl rfl (by unfold hX10_done at k; rw [if_neg h1, if_neg h3, if_neg h6, if_neg h9, if_neg h12, if_neg h15, if_neg h16, if_neg h17, if_neg h20, if_neg h21, if_neg h24, if_neg h26, if_neg h29, if_neg h32, if_neg h35, if_neg h38, if_neg h41, if_neg h44, if_neg h47, if_pos h50, if_neg h51] at k; exact k)
    ·
      refine px_iload_n dX10_done_219 rfl rfl ?_
      refine px_if_eq (tgt := 227) dX10_done_220 (by decide) (fun h52 => ?_) (fun h52 => ?_)
      ·
        refine px_iconst dX10_done_227 ic_0 ?_
        refine px_forget (ls' := [.null, .null, .null]) ?_ ⟨Or.inl rfl, Or.inl rfl, Or.inl rfl, trivial⟩
        refine px_callS (As := [.int 0]) (st := []) (rc := 0) (rs := 0) (mc := 0) (ms := 0) dX10_done_228 lk_10_332 rfl rfl (Nat.le_of_ble_eq_true rfl) (sX10_truth ?_)
        show px_W E mX10_done (d + 2) 0 0 231 [.null, .null, .null] [.int (hX10_truth 0)] w Q
        exact px_ireturn dX10_done_231 rfl rfl (by unfold hX10_done at k; rw [if_neg h1, if_neg h3, if_neg h6, if_neg h9, if_neg h12, if_neg h15, if_neg h16, if_neg h17, if_neg h20, if_neg h21, if_neg h24, if_neg h26, if_neg h29, if_neg h32, if_neg h35, if_neg h38, if_neg h41, if_neg h44, if_neg h47, if_pos h50, if_pos h51, if_pos h52] at k; exact k)
      ·
        refine px_iconst dX10_done_223 ic_1 ?_
        refine px_goto (tgt := 228) dX10_done_224 (by decide) ?_
        refine px_forget (ls' := [.null, .null, .null]) ?_ ⟨Or.inl rfl, Or.inl rfl, Or.inl rfl, trivial⟩
        refine px_callS (As := [.int 1]) (st := []) (rc := 0) (rs := 0) (mc := 0) (ms := 0) dX10_done_228 lk_10_332 rfl rfl (Nat.le_of_ble_eq_true rfl) (sX10_truth ?_)
        show px_W E mX10_done (d + 2) 0 0 231 [.null, .null, .null] [.int (hX10_truth 1)] w Q
        exact px_ireturn dX10_done_231 rfl rfl (by unfold hX10_done at k; rw [if_neg h1, if_neg h3, if_neg h6, if_neg h9, if_neg h12, if_neg h15, if_neg h16, if_neg h17, if_neg h20, if_neg h21, if_neg h24, if_neg h26, if_neg h29, if_neg h32, if_neg h35, if_neg h38, if_neg h41, if_neg h44, if_neg h47, if_pos h50, if_pos h51, if_neg h52] at k; exact k)
  by_cases h53 : x0 = 57
  ·
    refine px_table (tgt := 215) dX10_done_1 214 (by rw [h53]; decide) (by decide) ?_
    refine px_iload_n dX10_done_215 rfl rfl ?_
    refine px_if_ne (tgt := 223) dX10_done_216 (by decide) (fun h54 => ?_) (fun h54 => ?_)
    ·
      refine px_iconst dX10_done_223 ic_1 ?_
      refine px_goto (tgt := 228) dX10_done_224 (by decide) ?_
      refine px_forget (ls' := [.null, .null, .null]) ?_ ⟨Or.inl rfl, Or.inl rfl, Or.inl rfl, trivial⟩
      refine px_callS (As := [.int 1]) (st := []) (rc := 0) (rs := 0) (mc := 0) (ms := 0) dX10_done_228 lk_10_332 rfl rfl (Nat.le_of_ble_eq_true rfl) (sX10_truth ?_)
      show px_W E mX10_done (d + 2) 0 0 231 [.null, .null, .null] [.int (hX10_truth 1)] w Q
      exact px_ireturn dX10_done_231 rfl rfl (by unfold hX10_done at k; rw [if_neg h1, if_neg h3, if_neg h6, if_neg h9, if_neg h12, if_neg h15, if_neg h16, if_neg h17, if_neg h20, if_neg h21, if_neg h24, if_neg h26, if_neg h29, if_neg h32, if_neg h35, if_neg h38, if_neg h41, if_neg h44, if_neg h47, if_neg h50, if_pos h53, if_neg h54] at k; exact k)
    ·
      refine px_iload_n dX10_done_219 rfl rfl ?_
      refine px_if_eq (tgt := 227) dX10_done_220 (by decide) (fun h55 => ?_) (fun h55 => ?_)
      ·
        refine px_iconst dX10_done_227 ic_0 ?_
        refine px_forget (ls' := [.null, .null, .null]) ?_ ⟨Or.inl rfl, Or.inl rfl, Or.inl rfl, trivial⟩
        refine px_callS (As := [.int 0]) (st := []) (rc := 0) (rs := 0) (mc := 0) (ms := 0) dX10_done_228 lk_10_332 rfl rfl (Nat.le_of_ble_eq_true rfl) (sX10_truth ?_)
        show px_W E mX10_done (d + 2) 0 0 231 [.null, .null, .null] [.int (hX10_truth 0)] w Q
        exact px_ireturn dX10_done_231 rfl rfl (by unfold hX10_done at k; rw [if_neg h1, if_neg h3, if_neg h6, if_neg h9, if_neg h12, if_neg h15, if_neg h16, if_neg h17, if_neg h20, if_neg h21, if_neg h24, if_neg h26, if_neg h29, if_neg h32, if_neg h35, if_neg h38, if_neg h41, if_neg h44, if_neg h47, if_neg h50, if_pos h53, if_pos h54, if_pos h55] at k; exact k)
      ·
        refine px_iconst dX10_done_223 ic_1 ?_
        refine px_goto (tgt := 228) dX10_done_224 (by decide) ?_
        refine px_forget (ls' := [.null, .null, .null]) ?_ ⟨Or.inl rfl, Or.inl rfl, Or.inl rfl, trivial⟩
        refine px_callS (As := [.int 1]) (st := []) (rc := 0) (rs := 0) (mc := 0) (ms := 0) dX10_done_228 lk_10_332 rfl rfl (Nat.le_of_ble_eq_true rfl) (sX10_truth ?_)
        show px_W E mX10_done (d + 2) 0 0 231 [.null, .null, .null] [.int (hX10_truth 1)] w Q
        exact px_ireturn dX10_done_231 rfl rfl (by unfold hX10_done at k; rw [if_neg h1, if_neg h3, if_neg h6, if_neg h9, if_neg h12, if_neg h15, if_neg h16, if_neg h17, if_neg h20, if_neg h21, if_neg h24, if_neg h26, if_neg h29, if_neg h32, if_neg h35, if_neg h38, if_neg h41, if_neg h44, if_neg h47, if_neg h50, if_pos h53, if_pos h54, if_neg h55] at k; exact k)
  by_cases h56 : x0 = 58
  ·
    refine px_table (tgt := 215) dX10_done_1 214 (by rw [h56]; decide) (by decide) ?_
    refine px_iload_n dX10_done_215 rfl rfl ?_
    refine px_if_ne (tgt := 223) dX10_done_216 (by decide) (fun h57 => ?_) (fun h57 => ?_)
    ·
      refine px_iconst dX10_done_223 ic_1 ?_
      refine px_goto (tgt := 228) dX10_done_224 (by decide) ?_
      refine px_forget (ls' := [.null, .null, .null]) ?_ ⟨Or.inl rfl, Or.inl rfl, Or.inl rfl, trivial⟩
      refine px_callS (As := [.int 1]) (st := []) (rc := 0) (rs := 0) (mc := 0) (ms := 0) dX10_done_228 lk_10_332 rfl rfl (Nat.le_of_ble_eq_true rfl) (sX10_truth ?_)
      show px_W E mX10_done (d + 2) 0 0 231 [.null, .null, .null] [.int (hX10_truth 1)] w Q
      exact px_ireturn dX10_done_231 rfl rfl (by unfold hX10_done at k; rw [if_neg h1, if_neg h3, if_neg h6, if_neg h9, if_neg h12, if_neg h15, if_neg h16, if_neg h17, if_neg h20, if_neg h21, if_neg h24, if_neg h26, if_neg h29, if_neg h32, if_neg h35, if_neg h38, if_neg h41, if_neg h44, if_neg h47, if_neg h50, if_neg h53, if_pos h56, if_neg h57] at k; exact k)
    ·
      refine px_iload_n dX10_done_219 rfl rfl ?_
      refine px_if_eq (tgt := 227) dX10_done_220 (by decide) (fun h58 => ?_) (fun h58 => ?_)
      ·
        refine px_iconst dX10_done_227 ic_0 ?_
        refine px_forget (ls' := [.null, .null, .null]) ?_ ⟨Or.inl rfl, Or.inl rfl, Or.inl rfl, trivial⟩
        refine px_callS (As := [.int 0]) (st := []) (rc := 0) (rs := 0) (mc := 0) (ms := 0) dX10_done_228 lk_10_332 rfl rfl (Nat.le_of_ble_eq_true rfl) (sX10_truth ?_)
        show px_W E mX10_done (d + 2) 0 0 231 [.null, .null, .null] [.int (hX10_truth 0)] w Q
        exact px_ireturn dX10_done_231 rfl rfl (by unfold hX10_done at k; rw [if_neg h1, if_neg h3, if_neg h6, if_neg h9, if_neg h12, if_neg h15, if_neg h16, if_neg h17, if_neg h20, if_neg h21, if_neg h24, if_neg h26, if_neg h29, if_neg h32, if_neg h35, if_neg h38, if_neg h41, if_neg h44, if_neg h47, if_neg h50, if_neg h53, if_pos h56, if_pos h57, if_pos h58] at k; exact k)
      ·
        refine px_iconst dX10_done_223 ic_1 ?_
        refine px_goto (tgt := 228) dX10_done_224 (by decide) ?_
        refine px_forget (ls' := [.null, .null, .null]) ?_ ⟨Or.inl rfl, Or.inl rfl, Or.inl rfl, trivial⟩
        refine px_callS (As := [.int 1]) (st := []) (rc := 0) (rs := 0) (mc := 0) (ms := 0) dX10_done_228 lk_10_332 rfl rfl (Nat.le_of_ble_eq_true rfl) (sX10_truth ?_)
        show px_W E mX10_done (d + 2) 0 0 231 [.null, .null, .null] [.int (hX10_truth 1)] w Q
        exact px_ireturn dX10_done_231 rfl rfl (by unfold hX10_done at k; rw [if_neg h1, if_neg h3, if_neg h6, if_neg h9, if_neg h12, if_neg h15, if_neg h16, if_neg h17, if_neg h20, if_neg h21, if_neg h24, if_neg h26, if_neg h29, if_neg h32, if_neg h35, if_neg h38, if_neg h41, if_neg h44, if_neg h47, if_neg h50, if_neg h53, if_pos h56, if_pos h57, if_neg h58] at k; exact k)
  by_cases h59 : x0 = 59
  ·
    refine px_table (tgt := 215) dX10_done_1 214 (by rw [h59]; decide) (by decide) ?_
    refine px_iload_n dX10_done_215 rfl rfl ?_
    refine px_if_ne (tgt := 223) dX10_done_216 (by decide) (fun h60 => ?_) (fun h60 => ?_)
    ·
      refine px_iconst dX10_done_223 ic_1 ?_
      refine px_goto (tgt := 228) dX10_done_224 (by decide) ?_
      refine px_forget (ls' := [.null, .null, .null]) ?_ ⟨Or.inl rfl, Or.inl rfl, Or.inl rfl, trivial⟩
      refine px_callS (As := [.int 1]) (st := []) (rc := 0) (rs := 0) (mc := 0) (ms := 0) dX10_done_228 lk_10_332 rfl rfl (Nat.le_of_ble_eq_true rfl) (sX10_truth ?_)
      show px_W E mX10_done (d + 2) 0 0 231 [.null, .null, .null] [.int (hX10_truth 1)] w Q
      exact px_ireturn dX10_done_231 rfl rfl (by unfold hX10_done at k; rw [if_neg h1, if_neg h3, if_neg h6, if_neg h9, if_neg h12, if_neg h15, if_neg h16, if_neg h17, if_neg h20, if_neg h21, if_neg h24, if_neg h26, if_neg h29, if_neg h32, if_neg h35, if_neg h38, if_neg h41, if_neg h44, if_neg h47, if_neg h50, if_neg h53, if_neg h56, if_pos h59, if_neg h60] at k; exact k)
    ·
      refine px_iload_n dX10_done_219 rfl rfl ?_
      refine px_if_eq (tgt := 227) dX10_done_220 (by decide) (fun h61 => ?_) (fun h61 => ?_)
      ·
        refine px_iconst dX10_done_227 ic_0 ?_
        refine px_forget (ls' := [.null, .null, .null]) ?_ ⟨Or.inl rfl, Or.inl rfl, Or.inl rfl, trivial⟩
        refine px_callS (As := [.int 0]) (st := []) (rc := 0) (rs := 0) (mc := 0) (ms := 0) dX10_done_228 lk_10_332 rfl rfl (Nat.le_of_ble_eq_true rfl) (sX10_truth ?_)
        show px_W E mX10_done (d + 2) 0 0 231 [.null, .null, .null] [.int (hX10_truth 0)] w Q
        exact px_ireturn dX10_done_231 rfl rfl (by unfold hX10_done at k; rw [if_neg h1, if_neg h3, if_neg h6, if_neg h9, if_neg h12, if_neg h15, if_neg h16, if_neg h17, if_neg h20, if_neg h21, if_neg h24, if_neg h26, if_neg h29, if_neg h32, if_neg h35, if_neg h38, if_neg h41, if_neg h44, if_neg h47, if_neg h50, if_neg h53, if_neg h56, if_pos h59, if_pos h60, if_pos h61] at k; exact k)
      ·
        refine px_iconst dX10_done_223 ic_1 ?_
        refine px_goto (tgt := 228) dX10_done_224 (by decide) ?_
        refine px_forget (ls' := [.null, .null, .null]) ?_ ⟨Or.inl rfl, Or.inl rfl, Or.inl rfl, trivial⟩
        refine px_callS (As := [.int 1]) (st := []) (rc := 0) (rs := 0) (mc := 0) (ms := 0) dX10_done_228 lk_10_332 rfl rfl (Nat.le_of_ble_eq_true rfl) (sX10_truth ?_)
        show px_W E mX10_done (d + 2) 0 0 231 [.null, .null, .null] [.int (hX10_truth 1)] w Q
        exact px_ireturn dX10_done_231 rfl rfl (by unfold hX10_done at k; rw [if_neg h1, if_neg h3, if_neg h6, if_neg h9, if_neg h12, if_neg h15, if_neg h16, if_neg h17, if_neg h20, if_neg h21, if_neg h24, if_neg h26, if_neg h29, if_neg h32, if_neg h35, if_neg h38, if_neg h41, if_neg h44, if_neg h47, if_neg h50, if_neg h53, if_neg h56, if_pos h59, if_pos h60, if_neg h61] at k; exact k)
  by_cases h62 : x0 = 60
  ·
    refine px_table (tgt := 156) dX10_done_1 155 (by rw [h62]; decide) (by decide) ?_
    refine px_iload_n dX10_done_156 rfl rfl ?_
    refine px_iload_n dX10_done_157 rfl rfl ?_
    refine px_icmp_ge (tgt := 165) dX10_done_158 (by decide) (fun h63 => ?_) (fun h63 => ?_)
    ·
      refine px_iconst dX10_done_165 ic_0 ?_
      refine px_forget (ls' := [.null, .null, .null]) ?_ ⟨Or.inl rfl, Or.inl rfl, Or.inl rfl, trivial⟩
      refine px_callS (As := [.int 0]) (st := []) (rc := 0) (rs := 0) (mc := 0) (ms := 0) dX10_done_166 lk_10_332 rfl rfl (Nat.le_of_ble_eq_true rfl) (sX10_truth ?_)
      show px_W E mX10_done (d + 2) 0 0 169 [.null, .null, .null] [.int (hX10_truth 0)] w Q
      exact px_ireturn dX10_done_169 rfl rfl (by unfold hX10_done at k; rw [if_neg h1, if_neg h3, if_neg h6, if_neg h9, if_neg h12, if_neg h15, if_neg h16, if_neg h17, if_neg h20, if_neg h21, if_neg h24, if_neg h26, if_neg h29, if_neg h32, if_neg h35, if_neg h38, if_neg h41, if_neg h44, if_neg h47, if_neg h50, if_neg h53, if_neg h56, if_neg h59, if_pos h62, if_pos h63] at k; exact k)
    ·
      refine px_iconst dX10_done_161 ic_1 ?_
      refine px_goto (tgt := 166) dX10_done_162 (by decide) ?_
      refine px_forget (ls' := [.null, .null, .null]) ?_ ⟨Or.inl rfl, Or.inl rfl, Or.inl rfl, trivial⟩
      refine px_callS (As := [.int 1]) (st := []) (rc := 0) (rs := 0) (mc := 0) (ms := 0) dX10_done_166 lk_10_332 rfl rfl (Nat.le_of_ble_eq_true rfl) (sX10_truth ?_)
      show px_W E mX10_done (d + 2) 0 0 169 [.null, .null, .null] [.int (hX10_truth 1)] w Q
      exact px_ireturn dX10_done_169 rfl rfl (by unfold hX10_done at k; rw [if_neg h1, if_neg h3, if_neg h6, if_neg h9, if_neg h12, if_neg h15, if_neg h16, if_neg h17, if_neg h20, if_neg h21, if_neg h24, if_neg h26, if_neg h29, if_neg h32, if_neg h35, if_neg h38, if_neg h41, if_neg h44, if_neg h47, if_neg h50, if_neg h53, if_neg h56, if_neg h59, if_pos h62, if_neg h63] at k; exact k)
  by_cases h64 : x0 = 61
  ·
    refine px_table (tgt := 184) dX10_done_1 183 (by rw [h64]; decide) (by decide) ?_
    refine px_iload_n dX10_done_184 rfl rfl ?_
    refine px_iload_n dX10_done_185 rfl rfl ?_
    refine px_icmp_ne (tgt := 193) dX10_done_186 (by decide) (fun h65 => ?_) (fun h65 => ?_)
    ·
      refine px_iconst dX10_done_193 ic_0 ?_
      refine px_forget (ls' := [.null, .null, .null]) ?_ ⟨Or.inl rfl, Or.inl rfl, Or.inl rfl, trivial⟩
      refine px_callS (As := [.int 0]) (st := []) (rc := 0) (rs := 0) (mc := 0) (ms := 0) dX10_done_194 lk_10_332 rfl rfl (Nat.le_of_ble_eq_true rfl) (sX10_truth ?_)
      show px_W E mX10_done (d + 2) 0 0 197 [.null, .null, .null] [.int (hX10_truth 0)] w Q
      exact px_ireturn dX10_done_197 rfl rfl (by unfold hX10_done at k; rw [if_neg h1, if_neg h3, if_neg h6, if_neg h9, if_neg h12, if_neg h15, if_neg h16, if_neg h17, if_neg h20, if_neg h21, if_neg h24, if_neg h26, if_neg h29, if_neg h32, if_neg h35, if_neg h38, if_neg h41, if_neg h44, if_neg h47, if_neg h50, if_neg h53, if_neg h56, if_neg h59, if_neg h62, if_pos h64, if_neg h65] at k; exact k)
    ·
      refine px_iconst dX10_done_189 ic_1 ?_
      refine px_goto (tgt := 194) dX10_done_190 (by decide) ?_
      refine px_forget (ls' := [.null, .null, .null]) ?_ ⟨Or.inl rfl, Or.inl rfl, Or.inl rfl, trivial⟩
      refine px_callS (As := [.int 1]) (st := []) (rc := 0) (rs := 0) (mc := 0) (ms := 0) dX10_done_194 lk_10_332 rfl rfl (Nat.le_of_ble_eq_true rfl) (sX10_truth ?_)
      show px_W E mX10_done (d + 2) 0 0 197 [.null, .null, .null] [.int (hX10_truth 1)] w Q
      exact px_ireturn dX10_done_197 rfl rfl (by unfold hX10_done at k; rw [if_neg h1, if_neg h3, if_neg h6, if_neg h9, if_neg h12, if_neg h15, if_neg h16, if_neg h17, if_neg h20, if_neg h21, if_neg h24, if_neg h26, if_neg h29, if_neg h32, if_neg h35, if_neg h38, if_neg h41, if_neg h44, if_neg h47, if_neg h50, if_neg h53, if_neg h56, if_neg h59, if_neg h62, if_pos h64, if_pos h65] at k; exact k)
  by_cases h66 : x0 = 62
  ·
    refine px_table (tgt := 170) dX10_done_1 169 (by rw [h66]; decide) (by decide) ?_
    refine px_iload_n dX10_done_170 rfl rfl ?_
    refine px_iload_n dX10_done_171 rfl rfl ?_
    refine px_icmp_le (tgt := 179) dX10_done_172 (by decide) (fun h67 => ?_) (fun h67 => ?_)
    ·
      refine px_iconst dX10_done_179 ic_0 ?_
      refine px_forget (ls' := [.null, .null, .null]) ?_ ⟨Or.inl rfl, Or.inl rfl, Or.inl rfl, trivial⟩
      refine px_callS (As := [.int 0]) (st := []) (rc := 0) (rs := 0) (mc := 0) (ms := 0) dX10_done_180 lk_10_332 rfl rfl (Nat.le_of_ble_eq_true rfl) (sX10_truth ?_)
      show px_W E mX10_done (d + 2) 0 0 183 [.null, .null, .null] [.int (hX10_truth 0)] w Q
      exact px_ireturn dX10_done_183 rfl rfl (by unfold hX10_done at k; rw [if_neg h1, if_neg h3, if_neg h6, if_neg h9, if_neg h12, if_neg h15, if_neg h16, if_neg h17, if_neg h20, if_neg h21, if_neg h24, if_neg h26, if_neg h29, if_neg h32, if_neg h35, if_neg h38, if_neg h41, if_neg h44, if_neg h47, if_neg h50, if_neg h53, if_neg h56, if_neg h59, if_neg h62, if_neg h64, if_pos h66, if_pos h67] at k; exact k)
    ·
      refine px_iconst dX10_done_175 ic_1 ?_
      refine px_goto (tgt := 180) dX10_done_176 (by decide) ?_
      refine px_forget (ls' := [.null, .null, .null]) ?_ ⟨Or.inl rfl, Or.inl rfl, Or.inl rfl, trivial⟩
      refine px_callS (As := [.int 1]) (st := []) (rc := 0) (rs := 0) (mc := 0) (ms := 0) dX10_done_180 lk_10_332 rfl rfl (Nat.le_of_ble_eq_true rfl) (sX10_truth ?_)
      show px_W E mX10_done (d + 2) 0 0 183 [.null, .null, .null] [.int (hX10_truth 1)] w Q
      exact px_ireturn dX10_done_183 rfl rfl (by unfold hX10_done at k; rw [if_neg h1, if_neg h3, if_neg h6, if_neg h9, if_neg h12, if_neg h15, if_neg h16, if_neg h17, if_neg h20, if_neg h21, if_neg h24, if_neg h26, if_neg h29, if_neg h32, if_neg h35, if_neg h38, if_neg h41, if_neg h44, if_neg h47, if_neg h50, if_neg h53, if_neg h56, if_neg h59, if_neg h62, if_neg h64, if_pos h66, if_neg h67] at k; exact k)
  refine px_table (tgt := 215) dX10_done_1 214 (by have a37 := lv_neT h1 (show (37 : Int32).toInt = 37 from by decide); have a38 := lv_neT h3 (show (38 : Int32).toInt = 38 from by decide); have a39 := lv_neT h6 (show (39 : Int32).toInt = 39 from by decide); have a40 := lv_neT h9 (show (40 : Int32).toInt = 40 from by decide); have a41 := lv_neT h12 (show (41 : Int32).toInt = 41 from by decide); have a42 := lv_neT h15 (show (42 : Int32).toInt = 42 from by decide); have a43 := lv_neT h16 (show (43 : Int32).toInt = 43 from by decide); have a44 := lv_neT h17 (show (44 : Int32).toInt = 44 from by decide); have a45 := lv_neT h20 (show (45 : Int32).toInt = 45 from by decide); have a46 := lv_neT h21 (show (46 : Int32).toInt = 46 from by decide); have a47 := lv_neT h24 (show (47 : Int32).toInt = 47 from by decide); have a48 := lv_neT h26 (show (48 : Int32).toInt = 48 from by decide); have a49 := lv_neT h29 (show (49 : Int32).toInt = 49 from by decide); have a50 := lv_neT h32 (show (50 : Int32).toInt = 50 from by decide); have a51 := lv_neT h35 (show (51 : Int32).toInt = 51 from by decide); have a52 := lv_neT h38 (show (52 : Int32).toInt = 52 from by decide); have a53 := lv_neT h41 (show (53 : Int32).toInt = 53 from by decide); have a54 := lv_neT h44 (show (54 : Int32).toInt = 54 from by decide); have a55 := lv_neT h47 (show (55 : Int32).toInt = 55 from by decide); have a56 := lv_neT h50 (show (56 : Int32).toInt = 56 from by decide); have a57 := lv_neT h53 (show (57 : Int32).toInt = 57 from by decide); have a58 := lv_neT h56 (show (58 : Int32).toInt = 58 from by decide); have a59 := lv_neT h59 (show (59 : Int32).toInt = 59 from by decide); have a60 := lv_neT h62 (show (60 : Int32).toInt = 60 from by decide); have a61 := lv_neT h64 (show (61 : Int32).toInt = 61 from by decide); have a62 := lv_neT h66 (show (62 : Int32).toInt = 62 from by decide); rw [if_pos (by omega)]) (by decide) ?_
  refine px_iload_n dX10_done_215 rfl rfl ?_
  refine px_if_ne (tgt := 223) dX10_done_216 (by decide) (fun h68 => ?_) (fun h68 => ?_)
  ·
    refine px_iconst dX10_done_223 ic_1 ?_
    refine px_goto (tgt := 228) dX10_done_224 (by decide) ?_
    refine px_forget (ls' := [.null, .null, .null]) ?_ ⟨Or.inl rfl, Or.inl rfl, Or.inl rfl, trivial⟩
    refine px_callS (As := [.int 1]) (st := []) (rc := 0) (rs := 0) (mc := 0) (ms := 0) dX10_done_228 lk_10_332 rfl rfl (Nat.le_of_ble_eq_true rfl) (sX10_truth ?_)
    show px_W E mX10_done (d + 2) 0 0 231 [.null, .null, .null] [.int (hX10_truth 1)] w Q
    exact px_ireturn dX10_done_231 rfl rfl (by unfold hX10_done at k; rw [if_neg h1, if_neg h3, if_neg h6, if_neg h9, if_neg h12, if_neg h15, if_neg h16, if_neg h17, if_neg h20, if_neg h21, if_neg h24, if_neg h26, if_neg h29, if_neg h32, if_neg h35, if_neg h38, if_neg h41, if_neg h44, if_neg h47, if_neg h50, if_neg h53, if_neg h56, if_neg h59, if_neg h62, if_neg h64, if_neg h66, if_neg h68] at k; exact k)
  ·
    refine px_iload_n dX10_done_219 rfl rfl ?_
    refine px_if_eq (tgt := 227) dX10_done_220 (by decide) (fun h69 => ?_) (fun h69 => ?_)
    ·
      refine px_iconst dX10_done_227 ic_0 ?_
      refine px_forget (ls' := [.null, .null, .null]) ?_ ⟨Or.inl rfl, Or.inl rfl, Or.inl rfl, trivial⟩
      refine px_callS (As := [.int 0]) (st := []) (rc := 0) (rs := 0) (mc := 0) (ms := 0) dX10_done_228 lk_10_332 rfl rfl (Nat.le_of_ble_eq_true rfl) (sX10_truth ?_)
      show px_W E mX10_done (d + 2) 0 0 231 [.null, .null, .null] [.int (hX10_truth 0)] w Q
      exact px_ireturn dX10_done_231 rfl rfl (by unfold hX10_done at k; rw [if_neg h1, if_neg h3, if_neg h6, if_neg h9, if_neg h12, if_neg h15, if_neg h16, if_neg h17, if_neg h20, if_neg h21, if_neg h24, if_neg h26, if_neg h29, if_neg h32, if_neg h35, if_neg h38, if_neg h41, if_neg h44, if_neg h47, if_neg h50, if_neg h53, if_neg h56, if_neg h59, if_neg h62, if_neg h64, if_neg h66, if_pos h68, if_pos h69] at k; exact k)
    ·
      refine px_iconst dX10_done_223 ic_1 ?_
      refine px_goto (tgt := 228) dX10_done_224 (by decide) ?_
      refine px_forget (ls' := [.null, .null, .null]) ?_ ⟨Or.inl rfl, Or.inl rfl, Or.inl rfl, trivial⟩
      refine px_callS (As := [.int 1]) (st := []) (rc := 0) (rs := 0) (mc := 0) (ms := 0) dX10_done_228 lk_10_332 rfl rfl (Nat.le_of_ble_eq_true rfl) (sX10_truth ?_)
      show px_W E mX10_done (d + 2) 0 0 231 [.null, .null, .null] [.int (hX10_truth 1)] w Q
      exact px_ireturn dX10_done_231 rfl rfl (by unfold hX10_done at k; rw [if_neg h1, if_neg h3, if_neg h6, if_neg h9, if_neg h12, if_neg h15, if_neg h16, if_neg h17, if_neg h20, if_neg h21, if_neg h24, if_neg h26, if_neg h29, if_neg h32, if_neg h35, if_neg h38, if_neg h41, if_neg h44, if_neg h47, if_neg h50, if_neg h53, if_neg h56, if_neg h59, if_neg h62, if_neg h64, if_neg h66, if_pos h68, if_neg h69] at k; exact k)
theorem dX9_isPerson_0 : decode mX9_isPerson.2.1 0 = .ok (.iload_n 1, 1) := by decide +kernel
theorem dX9_isPerson_1 : decode mX9_isPerson.2.1 1 = .ok (.ifCond .lt 18, 3) := by decide +kernel
theorem dX9_isPerson_4 : decode mX9_isPerson.2.1 4 = .ok (.iload_n 1, 1) := by decide +kernel
theorem dX9_isPerson_5 : decode mX9_isPerson.2.1 5 = .ok (.aload_n 0, 1) := by decide +kernel
theorem dX9_isPerson_6 : decode mX9_isPerson.2.1 6 = .ok (.getfield 20, 3) := by decide +kernel
theorem dX9_isPerson_9 : decode mX9_isPerson.2.1 9 = .ok (.getfield 110, 3) := by decide +kernel
theorem dX9_isPerson_12 : decode mX9_isPerson.2.1 12 = .ok (.if_icmp .ge 7, 3) := by decide +kernel
theorem dX9_isPerson_15 : decode mX9_isPerson.2.1 15 = .ok (.iconst 1, 1) := by decide +kernel
theorem dX9_isPerson_16 : decode mX9_isPerson.2.1 16 = .ok (.goto 4, 3) := by decide +kernel
theorem dX9_isPerson_19 : decode mX9_isPerson.2.1 19 = .ok (.iconst 0, 1) := by decide +kernel
theorem dX9_isPerson_20 : decode mX9_isPerson.2.1 20 = .ok (.ireturn, 1) := by decide +kernel
abbrev pX9_isPerson (w : pw_W) (t : ct_T) (x1 : Int32) : Prop := ¬ (x1 < 0) ∧ (¬ ((pw_I w t.1 0) ≤ x1))
theorem sX9_isPerson {E : px_E} {d : Nat} {w : pw_W} {Q : Option Value → pw_W → Prop} {t : ct_T} (hw : w.1 = cs t) {x1 : Int32} (ht1 : is_Hamlet t.1)  (k : Q (some (.int (jb (pX9_isPerson w t x1)))) w) : px_Call E (d + 1) 0 0 mX9_isPerson [.ref 1, .int x1] w Q := by
  refine px_enter (k := 0) (ls := [.ref 1, .int x1]) (by decide) (Nat.le_of_ble_eq_true rfl) rfl (px_forget (ls' := [.ref 1, .int x1]) ?_ ⟨Or.inr rfl, Or.inr rfl, trivial⟩)
  refine px_iload_n dX9_isPerson_0 rfl rfl ?_
  refine px_if_lt (tgt := 19) dX9_isPerson_1 (by decide) (fun h1 => ?_) (fun h1 => ?_)
  ·
    refine px_iconst dX9_isPerson_19 ic_0 ?_
    exact px_ireturn dX9_isPerson_20 rfl (by decide) (by rw [jb_f (p := pX9_isPerson w t x1) (fun z => z.1 h1)] at k; exact k)
  ·
    refine px_iload_n dX9_isPerson_4 rfl rfl ?_
    refine px_aload_n dX9_isPerson_5 rfl rfl ?_
    refine px_getR (v := t.1) dX9_isPerson_6 fr_9_20 rfl (px_sh1 hw sh_1) (px_rf hw rf_1_2) ht1.ne ?_
    refine px_getI dX9_isPerson_9 fr_9_110 rfl (px_sh1 hw ht1.sh) ?_
    refine px_icmp_ge (tgt := 19) dX9_isPerson_12 (by decide) (fun h2 => ?_) (fun h2 => ?_)
    ·
      refine px_iconst dX9_isPerson_19 ic_0 ?_
      exact px_ireturn dX9_isPerson_20 rfl (by decide) (by rw [jb_f (p := pX9_isPerson w t x1) (fun z => (fun z => z h2) z.2)] at k; exact k)
    ·
      refine px_iconst dX9_isPerson_15 ic_1 ?_
      refine px_goto (tgt := 20) dX9_isPerson_16 (by decide) ?_
      exact px_ireturn dX9_isPerson_20 rfl (by decide) (by rw [jb_t (p := pX9_isPerson w t x1) ⟨h1, h2⟩] at k; exact k)
theorem dX9_isMeeting_0 : decode mX9_isMeeting.2.1 0 = .ok (.iload_n 1, 1) := by decide +kernel
theorem dX9_isMeeting_1 : decode mX9_isMeeting.2.1 1 = .ok (.ifCond .lt 18, 3) := by decide +kernel
theorem dX9_isMeeting_4 : decode mX9_isMeeting.2.1 4 = .ok (.iload_n 1, 1) := by decide +kernel
theorem dX9_isMeeting_5 : decode mX9_isMeeting.2.1 5 = .ok (.aload_n 0, 1) := by decide +kernel
theorem dX9_isMeeting_6 : decode mX9_isMeeting.2.1 6 = .ok (.getfield 20, 3) := by decide +kernel
theorem dX9_isMeeting_9 : decode mX9_isMeeting.2.1 9 = .ok (.getfield 269, 3) := by decide +kernel
theorem dX9_isMeeting_12 : decode mX9_isMeeting.2.1 12 = .ok (.if_icmp .ge 7, 3) := by decide +kernel
theorem dX9_isMeeting_15 : decode mX9_isMeeting.2.1 15 = .ok (.iconst 1, 1) := by decide +kernel
theorem dX9_isMeeting_16 : decode mX9_isMeeting.2.1 16 = .ok (.goto 4, 3) := by decide +kernel
theorem dX9_isMeeting_19 : decode mX9_isMeeting.2.1 19 = .ok (.iconst 0, 1) := by decide +kernel
theorem dX9_isMeeting_20 : decode mX9_isMeeting.2.1 20 = .ok (.ireturn, 1) := by decide +kernel
abbrev pX9_isMeeting (w : pw_W) (t : ct_T) (x1 : Int32) : Prop := ¬ (x1 < 0) ∧ (¬ ((pw_I w t.1 4) ≤ x1))
theorem sX9_isMeeting {E : px_E} {d : Nat} {w : pw_W} {Q : Option Value → pw_W → Prop} {t : ct_T} (hw : w.1 = cs t) {x1 : Int32} (ht1 : is_Hamlet t.1)  (k : Q (some (.int (jb (pX9_isMeeting w t x1)))) w) : px_Call E (d + 1) 0 0 mX9_isMeeting [.ref 1, .int x1] w Q := by
  refine px_enter (k := 0) (ls := [.ref 1, .int x1]) (by decide) (Nat.le_of_ble_eq_true rfl) rfl (px_forget (ls' := [.ref 1, .int x1]) ?_ ⟨Or.inr rfl, Or.inr rfl, trivial⟩)
  refine px_iload_n dX9_isMeeting_0 rfl rfl ?_
  refine px_if_lt (tgt := 19) dX9_isMeeting_1 (by decide) (fun h1 => ?_) (fun h1 => ?_)
  ·
    refine px_iconst dX9_isMeeting_19 ic_0 ?_
    exact px_ireturn dX9_isMeeting_20 rfl (by decide) (by rw [jb_f (p := pX9_isMeeting w t x1) (fun z => z.1 h1)] at k; exact k)
  ·
    refine px_iload_n dX9_isMeeting_4 rfl rfl ?_
    refine px_aload_n dX9_isMeeting_5 rfl rfl ?_
    refine px_getR (v := t.1) dX9_isMeeting_6 fr_9_20 rfl (px_sh1 hw sh_1) (px_rf hw rf_1_2) ht1.ne ?_
    refine px_getI dX9_isMeeting_9 fr_9_269 rfl (px_sh1 hw ht1.sh) ?_
    refine px_icmp_ge (tgt := 19) dX9_isMeeting_12 (by decide) (fun h2 => ?_) (fun h2 => ?_)
    ·
      refine px_iconst dX9_isMeeting_19 ic_0 ?_
      exact px_ireturn dX9_isMeeting_20 rfl (by decide) (by rw [jb_f (p := pX9_isMeeting w t x1) (fun z => (fun z => z h2) z.2)] at k; exact k)
    ·
      refine px_iconst dX9_isMeeting_15 ic_1 ?_
      refine px_goto (tgt := 20) dX9_isMeeting_16 (by decide) ?_
      exact px_ireturn dX9_isMeeting_20 rfl (by decide) (by rw [jb_t (p := pX9_isMeeting w t x1) ⟨h1, h2⟩] at k; exact k)
theorem dX9_isBrother_0 : decode mX9_isBrother.2.1 0 = .ok (.iload_n 1, 1) := by decide +kernel
theorem dX9_isBrother_1 : decode mX9_isBrother.2.1 1 = .ok (.ifCond .lt 18, 3) := by decide +kernel
theorem dX9_isBrother_4 : decode mX9_isBrother.2.1 4 = .ok (.iload_n 1, 1) := by decide +kernel
theorem dX9_isBrother_5 : decode mX9_isBrother.2.1 5 = .ok (.aload_n 0, 1) := by decide +kernel
theorem dX9_isBrother_6 : decode mX9_isBrother.2.1 6 = .ok (.getfield 20, 3) := by decide +kernel
theorem dX9_isBrother_9 : decode mX9_isBrother.2.1 9 = .ok (.getfield 283, 3) := by decide +kernel
theorem dX9_isBrother_12 : decode mX9_isBrother.2.1 12 = .ok (.if_icmp .ge 7, 3) := by decide +kernel
theorem dX9_isBrother_15 : decode mX9_isBrother.2.1 15 = .ok (.iconst 1, 1) := by decide +kernel
theorem dX9_isBrother_16 : decode mX9_isBrother.2.1 16 = .ok (.goto 4, 3) := by decide +kernel
theorem dX9_isBrother_19 : decode mX9_isBrother.2.1 19 = .ok (.iconst 0, 1) := by decide +kernel
theorem dX9_isBrother_20 : decode mX9_isBrother.2.1 20 = .ok (.ireturn, 1) := by decide +kernel
abbrev pX9_isBrother (w : pw_W) (t : ct_T) (x1 : Int32) : Prop := ¬ (x1 < 0) ∧ (¬ ((pw_I w t.1 8) ≤ x1))
theorem sX9_isBrother {E : px_E} {d : Nat} {w : pw_W} {Q : Option Value → pw_W → Prop} {t : ct_T} (hw : w.1 = cs t) {x1 : Int32} (ht1 : is_Hamlet t.1)  (k : Q (some (.int (jb (pX9_isBrother w t x1)))) w) : px_Call E (d + 1) 0 0 mX9_isBrother [.ref 1, .int x1] w Q := by
  refine px_enter (k := 0) (ls := [.ref 1, .int x1]) (by decide) (Nat.le_of_ble_eq_true rfl) rfl (px_forget (ls' := [.ref 1, .int x1]) ?_ ⟨Or.inr rfl, Or.inr rfl, trivial⟩)
  refine px_iload_n dX9_isBrother_0 rfl rfl ?_
  refine px_if_lt (tgt := 19) dX9_isBrother_1 (by decide) (fun h1 => ?_) (fun h1 => ?_)
  ·
    refine px_iconst dX9_isBrother_19 ic_0 ?_
    exact px_ireturn dX9_isBrother_20 rfl (by decide) (by rw [jb_f (p := pX9_isBrother w t x1) (fun z => z.1 h1)] at k; exact k)
  ·
    refine px_iload_n dX9_isBrother_4 rfl rfl ?_
    refine px_aload_n dX9_isBrother_5 rfl rfl ?_
    refine px_getR (v := t.1) dX9_isBrother_6 fr_9_20 rfl (px_sh1 hw sh_1) (px_rf hw rf_1_2) ht1.ne ?_
    refine px_getI dX9_isBrother_9 fr_9_283 rfl (px_sh1 hw ht1.sh) ?_
    refine px_icmp_ge (tgt := 19) dX9_isBrother_12 (by decide) (fun h2 => ?_) (fun h2 => ?_)
    ·
      refine px_iconst dX9_isBrother_19 ic_0 ?_
      exact px_ireturn dX9_isBrother_20 rfl (by decide) (by rw [jb_f (p := pX9_isBrother w t x1) (fun z => (fun z => z h2) z.2)] at k; exact k)
    ·
      refine px_iconst dX9_isBrother_15 ic_1 ?_
      refine px_goto (tgt := 20) dX9_isBrother_16 (by decide) ?_
      exact px_ireturn dX9_isBrother_20 rfl (by decide) (by rw [jb_t (p := pX9_isBrother w t x1) ⟨h1, h2⟩] at k; exact k)
theorem dX9_isBox_0 : decode mX9_isBox.2.1 0 = .ok (.iload_n 0, 1) := by decide +kernel
theorem dX9_isBox_1 : decode mX9_isBox.2.1 1 = .ok (.ifCond .lt 12, 3) := by decide +kernel
theorem dX9_isBox_4 : decode mX9_isBox.2.1 4 = .ok (.iload_n 0, 1) := by decide +kernel
theorem dX9_isBox_5 : decode mX9_isBox.2.1 5 = .ok (.iconst 3, 1) := by decide +kernel
theorem dX9_isBox_6 : decode mX9_isBox.2.1 6 = .ok (.if_icmp .ge 7, 3) := by decide +kernel
theorem dX9_isBox_9 : decode mX9_isBox.2.1 9 = .ok (.iconst 1, 1) := by decide +kernel
theorem dX9_isBox_10 : decode mX9_isBox.2.1 10 = .ok (.goto 4, 3) := by decide +kernel
theorem dX9_isBox_13 : decode mX9_isBox.2.1 13 = .ok (.iconst 0, 1) := by decide +kernel
theorem dX9_isBox_14 : decode mX9_isBox.2.1 14 = .ok (.ireturn, 1) := by decide +kernel
abbrev pX9_isBox (x0 : Int32) : Prop := ¬ (x0 < 0) ∧ (¬ (3 ≤ x0))
theorem sX9_isBox {E : px_E} {d : Nat} {w : pw_W} {Q : Option Value → pw_W → Prop} {x0 : Int32}   (k : Q (some (.int (jb (pX9_isBox x0)))) w) : px_Call E (d + 1) 0 0 mX9_isBox [.int x0] w Q := by
  refine px_enter (k := 0) (ls := [.int x0]) (by decide) (Nat.le_of_ble_eq_true rfl) rfl (px_forget (ls' := [.int x0]) ?_ ⟨Or.inr rfl, trivial⟩)
  refine px_iload_n dX9_isBox_0 rfl rfl ?_
  refine px_if_lt (tgt := 13) dX9_isBox_1 (by decide) (fun h1 => ?_) (fun h1 => ?_)
  ·
    refine px_iconst dX9_isBox_13 ic_0 ?_
    exact px_ireturn dX9_isBox_14 rfl (by decide) (by rw [jb_f (p := pX9_isBox x0) (fun z => z.1 h1)] at k; exact k)
  ·
    refine px_iload_n dX9_isBox_4 rfl rfl ?_
    refine px_iconst dX9_isBox_5 ic_3 ?_
    refine px_icmp_ge (tgt := 13) dX9_isBox_6 (by decide) (fun h2 => ?_) (fun h2 => ?_)
    ·
      refine px_iconst dX9_isBox_13 ic_0 ?_
      exact px_ireturn dX9_isBox_14 rfl (by decide) (by rw [jb_f (p := pX9_isBox x0) (fun z => (fun z => z h2) z.2)] at k; exact k)
    ·
      refine px_iconst dX9_isBox_9 ic_1 ?_
      refine px_goto (tgt := 14) dX9_isBox_10 (by decide) ?_
      exact px_ireturn dX9_isBox_14 rfl (by decide) (by rw [jb_t (p := pX9_isBox x0) ⟨h1, h2⟩] at k; exact k)
theorem dX9_isZeroOrOne_0 : decode mX9_isZeroOrOne.2.1 0 = .ok (.iload_n 0, 1) := by decide +kernel
theorem dX9_isZeroOrOne_1 : decode mX9_isZeroOrOne.2.1 1 = .ok (.ifCond .eq 8, 3) := by decide +kernel
theorem dX9_isZeroOrOne_4 : decode mX9_isZeroOrOne.2.1 4 = .ok (.iload_n 0, 1) := by decide +kernel
theorem dX9_isZeroOrOne_5 : decode mX9_isZeroOrOne.2.1 5 = .ok (.iconst 1, 1) := by decide +kernel
theorem dX9_isZeroOrOne_6 : decode mX9_isZeroOrOne.2.1 6 = .ok (.if_icmp .ne 7, 3) := by decide +kernel
theorem dX9_isZeroOrOne_9 : decode mX9_isZeroOrOne.2.1 9 = .ok (.iconst 1, 1) := by decide +kernel
theorem dX9_isZeroOrOne_10 : decode mX9_isZeroOrOne.2.1 10 = .ok (.goto 4, 3) := by decide +kernel
theorem dX9_isZeroOrOne_13 : decode mX9_isZeroOrOne.2.1 13 = .ok (.iconst 0, 1) := by decide +kernel
theorem dX9_isZeroOrOne_14 : decode mX9_isZeroOrOne.2.1 14 = .ok (.ireturn, 1) := by decide +kernel
abbrev pX9_isZeroOrOne (x0 : Int32) : Prop := (x0 = 0) ∨ (x0 = 1)
theorem sX9_isZeroOrOne {E : px_E} {d : Nat} {w : pw_W} {Q : Option Value → pw_W → Prop} {x0 : Int32}   (k : Q (some (.int (jb (pX9_isZeroOrOne x0)))) w) : px_Call E (d + 1) 0 0 mX9_isZeroOrOne [.int x0] w Q := by
  refine px_enter (k := 0) (ls := [.int x0]) (by decide) (Nat.le_of_ble_eq_true rfl) rfl (px_forget (ls' := [.int x0]) ?_ ⟨Or.inr rfl, trivial⟩)
  refine px_iload_n dX9_isZeroOrOne_0 rfl rfl ?_
  refine px_if_eq (tgt := 9) dX9_isZeroOrOne_1 (by decide) (fun h1 => ?_) (fun h1 => ?_)
  ·
    refine px_iconst dX9_isZeroOrOne_9 ic_1 ?_
    refine px_goto (tgt := 14) dX9_isZeroOrOne_10 (by decide) ?_
    exact px_ireturn dX9_isZeroOrOne_14 rfl (by decide) (by rw [jb_t (p := pX9_isZeroOrOne x0) (Or.inl h1)] at k; exact k)
  ·
    refine px_iload_n dX9_isZeroOrOne_4 rfl rfl ?_
    refine px_iconst dX9_isZeroOrOne_5 ic_1 ?_
    refine px_icmp_ne (tgt := 13) dX9_isZeroOrOne_6 (by decide) (fun h2 => ?_) (fun h2 => ?_)
    ·
      refine px_iconst dX9_isZeroOrOne_13 ic_0 ?_
      exact px_ireturn dX9_isZeroOrOne_14 rfl (by decide) (by rw [jb_f (p := pX9_isZeroOrOne x0) (fun z => z.elim h1 h2)] at k; exact k)
    ·
      refine px_iconst dX9_isZeroOrOne_9 ic_1 ?_
      refine px_goto (tgt := 14) dX9_isZeroOrOne_10 (by decide) ?_
      exact px_ireturn dX9_isZeroOrOne_14 rfl (by decide) (by rw [jb_t (p := pX9_isZeroOrOne x0) (Or.inr h2)] at k; exact k)
theorem dX9_isWithin_0 : decode mX9_isWithin.2.1 0 = .ok (.iload_n 0, 1) := by decide +kernel
theorem dX9_isWithin_1 : decode mX9_isWithin.2.1 1 = .ok (.ifCond .lt 12, 3) := by decide +kernel
theorem dX9_isWithin_4 : decode mX9_isWithin.2.1 4 = .ok (.iload_n 0, 1) := by decide +kernel
theorem dX9_isWithin_5 : decode mX9_isWithin.2.1 5 = .ok (.iload_n 1, 1) := by decide +kernel
theorem dX9_isWithin_6 : decode mX9_isWithin.2.1 6 = .ok (.if_icmp .gt 7, 3) := by decide +kernel
theorem dX9_isWithin_9 : decode mX9_isWithin.2.1 9 = .ok (.iconst 1, 1) := by decide +kernel
theorem dX9_isWithin_10 : decode mX9_isWithin.2.1 10 = .ok (.goto 4, 3) := by decide +kernel
theorem dX9_isWithin_13 : decode mX9_isWithin.2.1 13 = .ok (.iconst 0, 1) := by decide +kernel
theorem dX9_isWithin_14 : decode mX9_isWithin.2.1 14 = .ok (.ireturn, 1) := by decide +kernel
abbrev pX9_isWithin (x0 : Int32) (x1 : Int32) : Prop := ¬ (x0 < 0) ∧ (¬ (x1 < x0))
theorem sX9_isWithin {E : px_E} {d : Nat} {w : pw_W} {Q : Option Value → pw_W → Prop} {x0 x1 : Int32}   (k : Q (some (.int (jb (pX9_isWithin x0 x1)))) w) : px_Call E (d + 1) 0 0 mX9_isWithin [.int x0, .int x1] w Q := by
  refine px_enter (k := 0) (ls := [.int x0, .int x1]) (by decide) (Nat.le_of_ble_eq_true rfl) rfl (px_forget (ls' := [.int x0, .int x1]) ?_ ⟨Or.inr rfl, Or.inr rfl, trivial⟩)
  refine px_iload_n dX9_isWithin_0 rfl rfl ?_
  refine px_if_lt (tgt := 13) dX9_isWithin_1 (by decide) (fun h1 => ?_) (fun h1 => ?_)
  ·
    refine px_iconst dX9_isWithin_13 ic_0 ?_
    exact px_ireturn dX9_isWithin_14 rfl (by decide) (by rw [jb_f (p := pX9_isWithin x0 x1) (fun z => z.1 h1)] at k; exact k)
  ·
    refine px_iload_n dX9_isWithin_4 rfl rfl ?_
    refine px_iload_n dX9_isWithin_5 rfl rfl ?_
    refine px_icmp_gt (tgt := 13) dX9_isWithin_6 (by decide) (fun h2 => ?_) (fun h2 => ?_)
    ·
      refine px_iconst dX9_isWithin_13 ic_0 ?_
      exact px_ireturn dX9_isWithin_14 rfl (by decide) (by rw [jb_f (p := pX9_isWithin x0 x1) (fun z => (fun z => z h2) z.2)] at k; exact k)
    ·
      refine px_iconst dX9_isWithin_9 ic_1 ?_
      refine px_goto (tgt := 14) dX9_isWithin_10 (by decide) ?_
      exact px_ireturn dX9_isWithin_14 rfl (by decide) (by rw [jb_t (p := pX9_isWithin x0 x1) ⟨h1, h2⟩] at k; exact k)
theorem dX8_isForbidden_0 : decode mX8_isForbidden.2.1 0 = .ok (.aload_n 0, 1) := by decide +kernel
theorem dX8_isForbidden_1 : decode mX8_isForbidden.2.1 1 = .ok (.getfield 28, 3) := by decide +kernel
theorem dX8_isForbidden_4 : decode mX8_isForbidden.2.1 4 = .ok (.iload_n 1, 1) := by decide +kernel
theorem dX8_isForbidden_5 : decode mX8_isForbidden.2.1 5 = .ok (.ishr, 1) := by decide +kernel
theorem dX8_isForbidden_6 : decode mX8_isForbidden.2.1 6 = .ok (.iconst 1, 1) := by decide +kernel
theorem dX8_isForbidden_7 : decode mX8_isForbidden.2.1 7 = .ok (.iand, 1) := by decide +kernel
theorem dX8_isForbidden_8 : decode mX8_isForbidden.2.1 8 = .ok (.iconst 1, 1) := by decide +kernel
theorem dX8_isForbidden_9 : decode mX8_isForbidden.2.1 9 = .ok (.if_icmp .ne 7, 3) := by decide +kernel
theorem dX8_isForbidden_12 : decode mX8_isForbidden.2.1 12 = .ok (.iconst 1, 1) := by decide +kernel
theorem dX8_isForbidden_13 : decode mX8_isForbidden.2.1 13 = .ok (.goto 4, 3) := by decide +kernel
theorem dX8_isForbidden_16 : decode mX8_isForbidden.2.1 16 = .ok (.iconst 0, 1) := by decide +kernel
theorem dX8_isForbidden_17 : decode mX8_isForbidden.2.1 17 = .ok (.ireturn, 1) := by decide +kernel
abbrev pX8_isForbidden (w : pw_W) (r0 : Nat) (x1 : Int32) : Prop := ((js_shr (pw_I w r0 2) x1) &&& 1) = 1
theorem sX8_isForbidden {E : px_E} {d : Nat} {w : pw_W} {Q : Option Value → pw_W → Prop} {t : ct_T} (hw : w.1 = cs t) {x1 : Int32} {r0 : Nat} (hr0 : is_State r0)  (k : Q (some (.int (jb (pX8_isForbidden w r0 x1)))) w) : px_Call E (d + 1) 0 0 mX8_isForbidden [.ref r0, .int x1] w Q := by
  refine px_enter (k := 0) (ls := [.ref r0, .int x1]) (by decide) (Nat.le_of_ble_eq_true rfl) rfl (px_forget (ls' := [.ref r0, .int x1]) ?_ ⟨Or.inr rfl, Or.inr rfl, trivial⟩)
  refine px_aload_n dX8_isForbidden_0 rfl rfl ?_
  refine px_getI dX8_isForbidden_1 fr_8_28 rfl (px_sh1 hw hr0.sh) ?_
  refine px_iload_n dX8_isForbidden_4 rfl rfl ?_
  refine px_ishr dX8_isForbidden_5 ?_
  refine px_iconst dX8_isForbidden_6 ic_1 ?_
  refine px_iand dX8_isForbidden_7 ?_
  refine px_iconst dX8_isForbidden_8 ic_1 ?_
  refine px_icmp_ne (tgt := 16) dX8_isForbidden_9 (by decide) (fun h1 => ?_) (fun h1 => ?_)
  ·
    refine px_iconst dX8_isForbidden_16 ic_0 ?_
    exact px_ireturn dX8_isForbidden_17 rfl (by decide) (by rw [jb_f (p := pX8_isForbidden w r0 x1) h1] at k; exact k)
  ·
    refine px_iconst dX8_isForbidden_12 ic_1 ?_
    refine px_goto (tgt := 17) dX8_isForbidden_13 (by decide) ?_
    exact px_ireturn dX8_isForbidden_17 rfl (by decide) (by rw [jb_t (p := pX8_isForbidden w r0 x1) h1] at k; exact k)
theorem dX2_liesAbed_0 : decode mX2_liesAbed.2.1 0 = .ok (.aload_n 1, 1) := by decide +kernel
theorem dX2_liesAbed_1 : decode mX2_liesAbed.2.1 1 = .ok (.getfield 71, 3) := by decide +kernel
theorem dX2_liesAbed_4 : decode mX2_liesAbed.2.1 4 = .ok (.iload_n 2, 1) := by decide +kernel
theorem dX2_liesAbed_5 : decode mX2_liesAbed.2.1 5 = .ok (.iaload, 1) := by decide +kernel
theorem dX2_liesAbed_6 : decode mX2_liesAbed.2.1 6 = .ok (.aload_n 0, 1) := by decide +kernel
theorem dX2_liesAbed_7 : decode mX2_liesAbed.2.1 7 = .ok (.getfield 59, 3) := by decide +kernel
theorem dX2_liesAbed_10 : decode mX2_liesAbed.2.1 10 = .ok (.if_icmp .lt 7, 3) := by decide +kernel
theorem dX2_liesAbed_13 : decode mX2_liesAbed.2.1 13 = .ok (.iconst 1, 1) := by decide +kernel
theorem dX2_liesAbed_14 : decode mX2_liesAbed.2.1 14 = .ok (.goto 4, 3) := by decide +kernel
theorem dX2_liesAbed_17 : decode mX2_liesAbed.2.1 17 = .ok (.iconst 0, 1) := by decide +kernel
theorem dX2_liesAbed_18 : decode mX2_liesAbed.2.1 18 = .ok (.ireturn, 1) := by decide +kernel
abbrev pX2_liesAbed (w : pw_W) (r0 : Nat) (r1 : Nat) (x2 : Int32) (j1 : Nat) : Prop := ¬ ((pw_I w (r1 + 1) j1) < (pw_I w r0 12))
theorem sX2_liesAbed {E : px_E} {d : Nat} {w : pw_W} {Q : Option Value → pw_W → Prop} {t : ct_T} (hw : w.1 = cs t) {x2 : Int32} {r0 : Nat} (hr0 : is_Hamlet r0) {r1 : Nat} (hr1 : is_State r1) (j1 : Nat) (hj1 : x2 = nI j1) (hl1 : j1 < 6) (k : Q (some (.int (jb (pX2_liesAbed w r0 r1 x2 j1)))) w) : px_Call E (d + 1) 0 0 mX2_liesAbed [.ref r0, .ref r1, .int x2] w Q := by
  refine px_enter (k := 0) (ls := [.ref r0, .ref r1, .int x2]) (by decide) (Nat.le_of_ble_eq_true rfl) rfl (px_forget (ls' := [.ref r0, .ref r1, .int x2]) ?_ ⟨Or.inr rfl, Or.inr rfl, Or.inr rfl, trivial⟩)
  refine px_aload_n dX2_liesAbed_0 rfl rfl ?_
  refine px_getR (v := (r1 + 1)) dX2_liesAbed_1 fr_2_71 rfl (px_sh1 hw hr1.sh) (px_rf hw hr1.rf0) (Nat.succ_ne_zero _) ?_
  refine px_iload_n dX2_liesAbed_4 rfl rfl ?_
  refine px_iald dX2_liesAbed_5 (px_sh2 hw hr1.sh1) (by decide) j1 hj1 hl1 ?_
  refine px_aload_n dX2_liesAbed_6 rfl rfl ?_
  refine px_getI dX2_liesAbed_7 fr_2_59 rfl (px_sh1 hw hr0.sh) ?_
  refine px_icmp_lt (tgt := 17) dX2_liesAbed_10 (by decide) (fun h1 => ?_) (fun h1 => ?_)
  ·
    refine px_iconst dX2_liesAbed_17 ic_0 ?_
    exact px_ireturn dX2_liesAbed_18 rfl (by decide) (by rw [jb_f (p := pX2_liesAbed w r0 r1 x2 j1) (fun z => z h1)] at k; exact k)
  ·
    refine px_iconst dX2_liesAbed_13 ic_1 ?_
    refine px_goto (tgt := 18) dX2_liesAbed_14 (by decide) ?_
    exact px_ireturn dX2_liesAbed_18 rfl (by decide) (by rw [jb_t (p := pX2_liesAbed w r0 r1 x2 j1) h1] at k; exact k)
theorem dX2_allPeople_0 : decode mX2_allPeople.2.1 0 = .ok (.iconst 1, 1) := by decide +kernel
theorem dX2_allPeople_1 : decode mX2_allPeople.2.1 1 = .ok (.aload_n 0, 1) := by decide +kernel
theorem dX2_allPeople_2 : decode mX2_allPeople.2.1 2 = .ok (.getfield 49, 3) := by decide +kernel
theorem dX2_allPeople_5 : decode mX2_allPeople.2.1 5 = .ok (.ishl, 1) := by decide +kernel
theorem dX2_allPeople_6 : decode mX2_allPeople.2.1 6 = .ok (.iconst 1, 1) := by decide +kernel
theorem dX2_allPeople_7 : decode mX2_allPeople.2.1 7 = .ok (.isub, 1) := by decide +kernel
theorem dX2_allPeople_8 : decode mX2_allPeople.2.1 8 = .ok (.ireturn, 1) := by decide +kernel
def hX2_allPeople (w : pw_W) (r0 : Nat) : Int32 := ((js_shl 1 (pw_I w r0 0)) - 1)
theorem sX2_allPeople {E : px_E} {d : Nat} {w : pw_W} {Q : Option Value → pw_W → Prop} {t : ct_T} (hw : w.1 = cs t) {r0 : Nat} (hr0 : is_Hamlet r0)  (k : Q (some (.int (hX2_allPeople w r0))) w) : px_Call E (d + 1) 0 0 mX2_allPeople [.ref r0] w Q := by
  refine px_enter (k := 0) (ls := [.ref r0]) (by decide) (Nat.le_of_ble_eq_true rfl) rfl (px_forget (ls' := [.ref r0]) ?_ ⟨Or.inr rfl, trivial⟩)
  refine px_iconst dX2_allPeople_0 ic_1 ?_
  refine px_aload_n dX2_allPeople_1 rfl rfl ?_
  refine px_getI dX2_allPeople_2 fr_2_49 rfl (px_sh1 hw hr0.sh) ?_
  refine px_ishl dX2_allPeople_5 ?_
  refine px_iconst dX2_allPeople_6 ic_1 ?_
  refine px_isub dX2_allPeople_7 ?_
  exact px_ireturn dX2_allPeople_8 rfl rfl k
theorem dX6_isKeyword_0 : decode mX6_isKeyword.2.1 0 = .ok (.aload_n 0, 1) := by decide +kernel
theorem dX6_isKeyword_1 : decode mX6_isKeyword.2.1 1 = .ok (.getfield 67, 3) := by decide +kernel
theorem dX6_isKeyword_4 : decode mX6_isKeyword.2.1 4 = .ok (.iconst 4, 1) := by decide +kernel
theorem dX6_isKeyword_5 : decode mX6_isKeyword.2.1 5 = .ok (.if_icmp .ne 15, 3) := by decide +kernel
theorem dX6_isKeyword_8 : decode mX6_isKeyword.2.1 8 = .ok (.aload_n 0, 1) := by decide +kernel
theorem dX6_isKeyword_9 : decode mX6_isKeyword.2.1 9 = .ok (.getfield 58, 3) := by decide +kernel
theorem dX6_isKeyword_12 : decode mX6_isKeyword.2.1 12 = .ok (.iload_n 1, 1) := by decide +kernel
theorem dX6_isKeyword_13 : decode mX6_isKeyword.2.1 13 = .ok (.if_icmp .ne 7, 3) := by decide +kernel
theorem dX6_isKeyword_16 : decode mX6_isKeyword.2.1 16 = .ok (.iconst 1, 1) := by decide +kernel
theorem dX6_isKeyword_17 : decode mX6_isKeyword.2.1 17 = .ok (.goto 4, 3) := by decide +kernel
theorem dX6_isKeyword_20 : decode mX6_isKeyword.2.1 20 = .ok (.iconst 0, 1) := by decide +kernel
theorem dX6_isKeyword_21 : decode mX6_isKeyword.2.1 21 = .ok (.ireturn, 1) := by decide +kernel
abbrev pX6_isKeyword (w : pw_W) (x1 : Int32) : Prop := ((pw_I w 17 4) = 4) ∧ ((pw_I w 17 5) = x1)
theorem sX6_isKeyword {E : px_E} {d : Nat} {w : pw_W} {Q : Option Value → pw_W → Prop} {t : ct_T} (hw : w.1 = cs t) {x1 : Int32}   (k : Q (some (.int (jb (pX6_isKeyword w x1)))) w) : px_Call E (d + 1) 0 0 mX6_isKeyword [.ref 17, .int x1] w Q := by
  refine px_enter (k := 0) (ls := [.ref 17, .int x1]) (by decide) (Nat.le_of_ble_eq_true rfl) rfl (px_forget (ls' := [.ref 17, .int x1]) ?_ ⟨Or.inr rfl, Or.inr rfl, trivial⟩)
  refine px_aload_n dX6_isKeyword_0 rfl rfl ?_
  refine px_getI dX6_isKeyword_1 fr_6_67 rfl (px_sh1 hw sh_17) ?_
  refine px_iconst dX6_isKeyword_4 ic_4 ?_
  refine px_icmp_ne (tgt := 20) dX6_isKeyword_5 (by decide) (fun h1 => ?_) (fun h1 => ?_)
  ·
    refine px_iconst dX6_isKeyword_20 ic_0 ?_
    exact px_ireturn dX6_isKeyword_21 rfl (by decide) (by rw [jb_f (p := pX6_isKeyword w x1) (fun z => h1 z.1)] at k; exact k)
  ·
    refine px_aload_n dX6_isKeyword_8 rfl rfl ?_
    refine px_getI dX6_isKeyword_9 fr_6_58 rfl (px_sh1 hw sh_17) ?_
    refine px_iload_n dX6_isKeyword_12 rfl rfl ?_
    refine px_icmp_ne (tgt := 20) dX6_isKeyword_13 (by decide) (fun h2 => ?_) (fun h2 => ?_)
    ·
      refine px_iconst dX6_isKeyword_20 ic_0 ?_
      exact px_ireturn dX6_isKeyword_21 rfl (by decide) (by rw [jb_f (p := pX6_isKeyword w x1) (fun z => h2 z.2)] at k; exact k)
    ·
      refine px_iconst dX6_isKeyword_16 ic_1 ?_
      refine px_goto (tgt := 21) dX6_isKeyword_17 (by decide) ?_
      exact px_ireturn dX6_isKeyword_21 rfl (by decide) (by rw [jb_t (p := pX6_isKeyword w x1) ⟨h1, h2⟩] at k; exact k)
theorem dX6_isSign_0 : decode mX6_isSign.2.1 0 = .ok (.aload_n 0, 1) := by decide +kernel
theorem dX6_isSign_1 : decode mX6_isSign.2.1 1 = .ok (.getfield 67, 3) := by decide +kernel
theorem dX6_isSign_4 : decode mX6_isSign.2.1 4 = .ok (.iconst 5, 1) := by decide +kernel
theorem dX6_isSign_5 : decode mX6_isSign.2.1 5 = .ok (.if_icmp .ne 15, 3) := by decide +kernel
theorem dX6_isSign_8 : decode mX6_isSign.2.1 8 = .ok (.aload_n 0, 1) := by decide +kernel
theorem dX6_isSign_9 : decode mX6_isSign.2.1 9 = .ok (.getfield 58, 3) := by decide +kernel
theorem dX6_isSign_12 : decode mX6_isSign.2.1 12 = .ok (.iload_n 1, 1) := by decide +kernel
theorem dX6_isSign_13 : decode mX6_isSign.2.1 13 = .ok (.if_icmp .ne 7, 3) := by decide +kernel
theorem dX6_isSign_16 : decode mX6_isSign.2.1 16 = .ok (.iconst 1, 1) := by decide +kernel
theorem dX6_isSign_17 : decode mX6_isSign.2.1 17 = .ok (.goto 4, 3) := by decide +kernel
theorem dX6_isSign_20 : decode mX6_isSign.2.1 20 = .ok (.iconst 0, 1) := by decide +kernel
theorem dX6_isSign_21 : decode mX6_isSign.2.1 21 = .ok (.ireturn, 1) := by decide +kernel
abbrev pX6_isSign (w : pw_W) (x1 : Int32) : Prop := ((pw_I w 17 4) = 5) ∧ ((pw_I w 17 5) = x1)
theorem sX6_isSign {E : px_E} {d : Nat} {w : pw_W} {Q : Option Value → pw_W → Prop} {t : ct_T} (hw : w.1 = cs t) {x1 : Int32}   (k : Q (some (.int (jb (pX6_isSign w x1)))) w) : px_Call E (d + 1) 0 0 mX6_isSign [.ref 17, .int x1] w Q := by
  refine px_enter (k := 0) (ls := [.ref 17, .int x1]) (by decide) (Nat.le_of_ble_eq_true rfl) rfl (px_forget (ls' := [.ref 17, .int x1]) ?_ ⟨Or.inr rfl, Or.inr rfl, trivial⟩)
  refine px_aload_n dX6_isSign_0 rfl rfl ?_
  refine px_getI dX6_isSign_1 fr_6_67 rfl (px_sh1 hw sh_17) ?_
  refine px_iconst dX6_isSign_4 ic_5 ?_
  refine px_icmp_ne (tgt := 20) dX6_isSign_5 (by decide) (fun h1 => ?_) (fun h1 => ?_)
  ·
    refine px_iconst dX6_isSign_20 ic_0 ?_
    exact px_ireturn dX6_isSign_21 rfl (by decide) (by rw [jb_f (p := pX6_isSign w x1) (fun z => h1 z.1)] at k; exact k)
  ·
    refine px_aload_n dX6_isSign_8 rfl rfl ?_
    refine px_getI dX6_isSign_9 fr_6_58 rfl (px_sh1 hw sh_17) ?_
    refine px_iload_n dX6_isSign_12 rfl rfl ?_
    refine px_icmp_ne (tgt := 20) dX6_isSign_13 (by decide) (fun h2 => ?_) (fun h2 => ?_)
    ·
      refine px_iconst dX6_isSign_20 ic_0 ?_
      exact px_ireturn dX6_isSign_21 rfl (by decide) (by rw [jb_f (p := pX6_isSign w x1) (fun z => h2 z.2)] at k; exact k)
    ·
      refine px_iconst dX6_isSign_16 ic_1 ?_
      refine px_goto (tgt := 21) dX6_isSign_17 (by decide) ?_
      exact px_ireturn dX6_isSign_21 rfl (by decide) (by rw [jb_t (p := pX6_isSign w x1) ⟨h1, h2⟩] at k; exact k)
theorem dX6_spelledOn_0 : decode mX6_spelledOn.2.1 0 = .ok (.lload_n 0, 1) := by decide +kernel
theorem dX6_spelledOn_1 : decode mX6_spelledOn.2.1 1 = .ok (.ldc2_w 76, 3) := by decide +kernel
theorem dX6_spelledOn_4 : decode mX6_spelledOn.2.1 4 = .ok (.lmul, 1) := by decide +kernel
theorem dX6_spelledOn_5 : decode mX6_spelledOn.2.1 5 = .ok (.iload_n 2, 1) := by decide +kernel
theorem dX6_spelledOn_6 : decode mX6_spelledOn.2.1 6 = .ok (.bipush 97, 2) := by decide +kernel
theorem dX6_spelledOn_8 : decode mX6_spelledOn.2.1 8 = .ok (.isub, 1) := by decide +kernel
theorem dX6_spelledOn_9 : decode mX6_spelledOn.2.1 9 = .ok (.iconst 1, 1) := by decide +kernel
theorem dX6_spelledOn_10 : decode mX6_spelledOn.2.1 10 = .ok (.iadd, 1) := by decide +kernel
theorem dX6_spelledOn_11 : decode mX6_spelledOn.2.1 11 = .ok (.i2l, 1) := by decide +kernel
theorem dX6_spelledOn_12 : decode mX6_spelledOn.2.1 12 = .ok (.ladd, 1) := by decide +kernel
theorem dX6_spelledOn_13 : decode mX6_spelledOn.2.1 13 = .ok (.lreturn, 1) := by decide +kernel
def hX6_spelledOn (l0 : Int64) (x2 : Int32) : Int64 := ((l0 * 27) + ((x2 - 97) + 1).toInt64)
theorem sX6_spelledOn {E : px_E} {d : Nat} {w : pw_W} {Q : Option Value → pw_W → Prop} {x2 : Int32} {l0 : Int64}   (k : Q (some (.long (hX6_spelledOn l0 x2))) w) : px_Call E (d + 1) 0 0 mX6_spelledOn [.long l0, .int x2] w Q := by
  refine px_enter (k := 0) (ls := [.long l0, .null, .int x2]) (by decide) (Nat.le_of_ble_eq_true rfl) rfl (px_forget (ls' := [.long l0, .null, .int x2]) ?_ ⟨Or.inr rfl, Or.inl rfl, Or.inr rfl, trivial⟩)
  refine px_lload_n dX6_spelledOn_0 rfl rfl ?_
  refine px_ldc2 dX6_spelledOn_1 (px_in1 232 rfl rfl) ?_
  refine px_lmul dX6_spelledOn_4 ?_
  refine px_iload_n dX6_spelledOn_5 rfl rfl ?_
  refine px_bipush dX6_spelledOn_6 bp_97 ?_
  refine px_isub dX6_spelledOn_8 ?_
  refine px_iconst dX6_spelledOn_9 ic_1 ?_
  refine px_iadd dX6_spelledOn_10 ?_
  refine px_i2l dX6_spelledOn_11 ?_
  refine px_ladd dX6_spelledOn_12 ?_
  exact px_lreturn dX6_spelledOn_13 rfl k
theorem dX7_cell_0 : decode mX7_cell.2.1 0 = .ok (.iload_n 0, 1) := by decide +kernel
theorem dX7_cell_1 : decode mX7_cell.2.1 1 = .ok (.bipush 15, 2) := by decide +kernel
theorem dX7_cell_3 : decode mX7_cell.2.1 3 = .ok (.imul, 1) := by decide +kernel
theorem dX7_cell_4 : decode mX7_cell.2.1 4 = .ok (.iload_n 1, 1) := by decide +kernel
theorem dX7_cell_5 : decode mX7_cell.2.1 5 = .ok (.iadd, 1) := by decide +kernel
theorem dX7_cell_6 : decode mX7_cell.2.1 6 = .ok (.bipush 6, 2) := by decide +kernel
theorem dX7_cell_8 : decode mX7_cell.2.1 8 = .ok (.imul, 1) := by decide +kernel
theorem dX7_cell_9 : decode mX7_cell.2.1 9 = .ok (.iload_n 2, 1) := by decide +kernel
theorem dX7_cell_10 : decode mX7_cell.2.1 10 = .ok (.iadd, 1) := by decide +kernel
theorem dX7_cell_11 : decode mX7_cell.2.1 11 = .ok (.ireturn, 1) := by decide +kernel
def hX7_cell (x0 : Int32) (x1 : Int32) (x2 : Int32) : Int32 := ((((x0 * 15) + x1) * 6) + x2)
theorem sX7_cell {E : px_E} {d : Nat} {w : pw_W} {Q : Option Value → pw_W → Prop} {x0 x1 x2 : Int32}   (k : Q (some (.int (hX7_cell x0 x1 x2))) w) : px_Call E (d + 1) 0 0 mX7_cell [.int x0, .int x1, .int x2] w Q := by
  refine px_enter (k := 0) (ls := [.int x0, .int x1, .int x2]) (by decide) (Nat.le_of_ble_eq_true rfl) rfl (px_forget (ls' := [.int x0, .int x1, .int x2]) ?_ ⟨Or.inr rfl, Or.inr rfl, Or.inr rfl, trivial⟩)
  refine px_iload_n dX7_cell_0 rfl rfl ?_
  refine px_bipush dX7_cell_1 bp_15 ?_
  refine px_imul dX7_cell_3 ?_
  refine px_iload_n dX7_cell_4 rfl rfl ?_
  refine px_iadd dX7_cell_5 ?_
  refine px_bipush dX7_cell_6 bp_6 ?_
  refine px_imul dX7_cell_8 ?_
  refine px_iload_n dX7_cell_9 rfl rfl ?_
  refine px_iadd dX7_cell_10 ?_
  exact px_ireturn dX7_cell_11 rfl rfl k
theorem dX3_undoable_0 : decode mX3_undoable.2.1 0 = .ok (.aload_n 0, 1) := by decide +kernel
theorem dX3_undoable_1 : decode mX3_undoable.2.1 1 = .ok (.getfield 15, 3) := by decide +kernel
theorem dX3_undoable_4 : decode mX3_undoable.2.1 4 = .ok (.ireturn, 1) := by decide +kernel
def hX3_undoable (w : pw_W) : Int32 := (pw_I w 38 1)
theorem sX3_undoable {E : px_E} {d : Nat} {w : pw_W} {Q : Option Value → pw_W → Prop} {t : ct_T} (hw : w.1 = cs t)   (k : Q (some (.int (hX3_undoable w))) w) : px_Call E (d + 1) 0 0 mX3_undoable [.ref 38] w Q := by
  refine px_enter (k := 0) (ls := [.ref 38]) (by decide) (Nat.le_of_ble_eq_true rfl) rfl (px_forget (ls' := [.ref 38]) ?_ ⟨Or.inr rfl, trivial⟩)
  refine px_aload_n dX3_undoable_0 rfl rfl ?_
  refine px_getI dX3_undoable_1 fr_3_15 rfl (px_sh1 hw sh_38) ?_
  exact px_ireturn dX3_undoable_4 rfl rfl k
theorem dX3_redoable_0 : decode mX3_redoable.2.1 0 = .ok (.aload_n 0, 1) := by decide +kernel
theorem dX3_redoable_1 : decode mX3_redoable.2.1 1 = .ok (.getfield 19, 3) := by decide +kernel
theorem dX3_redoable_4 : decode mX3_redoable.2.1 4 = .ok (.aload_n 0, 1) := by decide +kernel
theorem dX3_redoable_5 : decode mX3_redoable.2.1 5 = .ok (.getfield 15, 3) := by decide +kernel
theorem dX3_redoable_8 : decode mX3_redoable.2.1 8 = .ok (.isub, 1) := by decide +kernel
theorem dX3_redoable_9 : decode mX3_redoable.2.1 9 = .ok (.ireturn, 1) := by decide +kernel
def hX3_redoable (w : pw_W) : Int32 := ((pw_I w 38 2) - (pw_I w 38 1))
theorem sX3_redoable {E : px_E} {d : Nat} {w : pw_W} {Q : Option Value → pw_W → Prop} {t : ct_T} (hw : w.1 = cs t)   (k : Q (some (.int (hX3_redoable w))) w) : px_Call E (d + 1) 0 0 mX3_redoable [.ref 38] w Q := by
  refine px_enter (k := 0) (ls := [.ref 38]) (by decide) (Nat.le_of_ble_eq_true rfl) rfl (px_forget (ls' := [.ref 38]) ?_ ⟨Or.inr rfl, trivial⟩)
  refine px_aload_n dX3_redoable_0 rfl rfl ?_
  refine px_getI dX3_redoable_1 fr_3_19 rfl (px_sh1 hw sh_38) ?_
  refine px_aload_n dX3_redoable_4 rfl rfl ?_
  refine px_getI dX3_redoable_5 fr_3_15 rfl (px_sh1 hw sh_38) ?_
  refine px_isub dX3_redoable_8 ?_
  exact px_ireturn dX3_redoable_9 rfl rfl k
theorem dX1_known_0 : decode mX1_known.2.1 0 = .ok (.iload_n 0, 1) := by decide +kernel
theorem dX1_known_1 : decode mX1_known.2.1 1 = .ok (.tableswitch 40 (-4) (-1) #[37, 35, 33, 31], 31) := by decide +kernel
theorem dX1_known_32 : decode mX1_known.2.1 32 = .ok (.iload_n 1, 1) := by decide +kernel
theorem dX1_known_33 : decode mX1_known.2.1 33 = .ok (.ireturn, 1) := by decide +kernel
theorem dX1_known_34 : decode mX1_known.2.1 34 = .ok (.iload_n 2, 1) := by decide +kernel
theorem dX1_known_35 : decode mX1_known.2.1 35 = .ok (.ireturn, 1) := by decide +kernel
theorem dX1_known_36 : decode mX1_known.2.1 36 = .ok (.iload_n 3, 1) := by decide +kernel
theorem dX1_known_37 : decode mX1_known.2.1 37 = .ok (.ireturn, 1) := by decide +kernel
theorem dX1_known_38 : decode mX1_known.2.1 38 = .ok (.iload 4, 2) := by decide +kernel
theorem dX1_known_40 : decode mX1_known.2.1 40 = .ok (.ireturn, 1) := by decide +kernel
theorem dX1_known_41 : decode mX1_known.2.1 41 = .ok (.iload 4, 2) := by decide +kernel
theorem dX1_known_43 : decode mX1_known.2.1 43 = .ok (.bipush 7, 2) := by decide +kernel
theorem dX1_known_45 : decode mX1_known.2.1 45 = .ok (.idiv, 1) := by decide +kernel
theorem dX1_known_46 : decode mX1_known.2.1 46 = .ok (.ireturn, 1) := by decide +kernel
def hX1_known (x0 : Int32) (x1 : Int32) (x2 : Int32) (x3 : Int32) (x4 : Int32) : Int32 := (if x0 = (-4) then x4 else (if x0 = (-3) then x3 else (if x0 = (-2) then x2 else (if x0 = (-1) then x1 else (x4 / 7)))))
theorem sX1_known {E : px_E} {d : Nat} {w : pw_W} {Q : Option Value → pw_W → Prop} {x0 x1 x2 x3 x4 : Int32}   (k : Q (some (.int (hX1_known x0 x1 x2 x3 x4))) w) : px_Call E (d + 1) 0 0 mX1_known [.int x0, .int x1, .int x2, .int x3, .int x4] w Q := by
  refine px_enter (k := 0) (ls := [.int x0, .int x1, .int x2, .int x3, .int x4]) (by decide) (Nat.le_of_ble_eq_true rfl) rfl (px_forget (ls' := [.int x0, .int x1, .int x2, .int x3, .int x4]) ?_ ⟨Or.inr rfl, Or.inr rfl, Or.inr rfl, Or.inr rfl, Or.inr rfl, trivial⟩)
  refine px_iload_n dX1_known_0 rfl rfl ?_
  by_cases h1 : x0 = (-4)
  ·
    refine px_table (tgt := 38) dX1_known_1 37 (by rw [h1]; decide) (by decide) ?_
    refine px_iload dX1_known_38 rfl ?_
    exact px_ireturn dX1_known_40 rfl rfl (by unfold hX1_known at k; rw [if_pos h1] at k; exact k)
  by_cases h2 : x0 = (-3)
  ·
    refine px_table (tgt := 36) dX1_known_1 35 (by rw [h2]; decide) (by decide) ?_
    refine px_iload_n dX1_known_36 rfl rfl ?_
    exact px_ireturn dX1_known_37 rfl rfl (by unfold hX1_known at k; rw [if_neg h1, if_pos h2] at k; exact k)
  by_cases h3 : x0 = (-2)
  ·
    refine px_table (tgt := 34) dX1_known_1 33 (by rw [h3]; decide) (by decide) ?_
    refine px_iload_n dX1_known_34 rfl rfl ?_
    exact px_ireturn dX1_known_35 rfl rfl (by unfold hX1_known at k; rw [if_neg h1, if_neg h2, if_pos h3] at k; exact k)
  by_cases h4 : x0 = (-1)
  ·
    refine px_table (tgt := 32) dX1_known_1 31 (by rw [h4]; decide) (by decide) ?_
    refine px_iload_n dX1_known_32 rfl rfl ?_
    exact px_ireturn dX1_known_33 rfl rfl (by unfold hX1_known at k; rw [if_neg h1, if_neg h2, if_neg h3, if_pos h4] at k; exact k)
  refine px_table (tgt := 41) dX1_known_1 40 (by have a1004 := lv_neT h1 (show ((-4) : Int32).toInt = (-4) from by decide); have a1003 := lv_neT h2 (show ((-3) : Int32).toInt = (-3) from by decide); have a1002 := lv_neT h3 (show ((-2) : Int32).toInt = (-2) from by decide); have a1001 := lv_neT h4 (show ((-1) : Int32).toInt = (-1) from by decide); rw [if_pos (by omega)]) (by decide) ?_
  refine px_iload dX1_known_41 rfl ?_
  refine px_bipush dX1_known_43 bp_7 ?_
  refine px_idiv dX1_known_45 (by decide) ?_
  exact px_ireturn dX1_known_46 rfl rfl (by unfold hX1_known at k; rw [if_neg h1, if_neg h2, if_neg h3, if_neg h4] at k; exact k)
theorem dX1_joined_0 : decode mX1_joined.2.1 0 = .ok (.iload_n 0, 1) := by decide +kernel
theorem dX1_joined_1 : decode mX1_joined.2.1 1 = .ok (.tableswitch 136 (-15) (-7) #[124, 120, 116, 112, 101, 90, 79, 65, 51], 51) := by decide +kernel
theorem dX1_joined_52 : decode mX1_joined.2.1 52 = .ok (.iload_n 1, 1) := by decide +kernel
theorem dX1_joined_53 : decode mX1_joined.2.1 53 = .ok (.ifCond .ne 7, 3) := by decide +kernel
theorem dX1_joined_56 : decode mX1_joined.2.1 56 = .ok (.iload_n 2, 1) := by decide +kernel
theorem dX1_joined_57 : decode mX1_joined.2.1 57 = .ok (.ifCond .eq 7, 3) := by decide +kernel
theorem dX1_joined_60 : decode mX1_joined.2.1 60 = .ok (.iconst 1, 1) := by decide +kernel
theorem dX1_joined_61 : decode mX1_joined.2.1 61 = .ok (.goto 4, 3) := by decide +kernel
theorem dX1_joined_64 : decode mX1_joined.2.1 64 = .ok (.iconst 0, 1) := by decide +kernel
theorem dX1_joined_65 : decode mX1_joined.2.1 65 = .ok (.ireturn, 1) := by decide +kernel
theorem dX1_joined_66 : decode mX1_joined.2.1 66 = .ok (.iload_n 1, 1) := by decide +kernel
theorem dX1_joined_67 : decode mX1_joined.2.1 67 = .ok (.ifCond .eq 11, 3) := by decide +kernel
theorem dX1_joined_70 : decode mX1_joined.2.1 70 = .ok (.iload_n 2, 1) := by decide +kernel
theorem dX1_joined_71 : decode mX1_joined.2.1 71 = .ok (.ifCond .eq 7, 3) := by decide +kernel
theorem dX1_joined_74 : decode mX1_joined.2.1 74 = .ok (.iconst 1, 1) := by decide +kernel
theorem dX1_joined_75 : decode mX1_joined.2.1 75 = .ok (.goto 4, 3) := by decide +kernel
theorem dX1_joined_78 : decode mX1_joined.2.1 78 = .ok (.iconst 0, 1) := by decide +kernel
theorem dX1_joined_79 : decode mX1_joined.2.1 79 = .ok (.ireturn, 1) := by decide +kernel
theorem dX1_joined_80 : decode mX1_joined.2.1 80 = .ok (.iload_n 1, 1) := by decide +kernel
theorem dX1_joined_81 : decode mX1_joined.2.1 81 = .ok (.iload_n 2, 1) := by decide +kernel
theorem dX1_joined_82 : decode mX1_joined.2.1 82 = .ok (.if_icmp .ge 7, 3) := by decide +kernel
theorem dX1_joined_85 : decode mX1_joined.2.1 85 = .ok (.iconst 1, 1) := by decide +kernel
theorem dX1_joined_86 : decode mX1_joined.2.1 86 = .ok (.goto 4, 3) := by decide +kernel
theorem dX1_joined_89 : decode mX1_joined.2.1 89 = .ok (.iconst 0, 1) := by decide +kernel
theorem dX1_joined_90 : decode mX1_joined.2.1 90 = .ok (.ireturn, 1) := by decide +kernel
theorem dX1_joined_91 : decode mX1_joined.2.1 91 = .ok (.iload_n 1, 1) := by decide +kernel
theorem dX1_joined_92 : decode mX1_joined.2.1 92 = .ok (.iload_n 2, 1) := by decide +kernel
theorem dX1_joined_93 : decode mX1_joined.2.1 93 = .ok (.if_icmp .le 7, 3) := by decide +kernel
theorem dX1_joined_96 : decode mX1_joined.2.1 96 = .ok (.iconst 1, 1) := by decide +kernel
theorem dX1_joined_97 : decode mX1_joined.2.1 97 = .ok (.goto 4, 3) := by decide +kernel
theorem dX1_joined_100 : decode mX1_joined.2.1 100 = .ok (.iconst 0, 1) := by decide +kernel
theorem dX1_joined_101 : decode mX1_joined.2.1 101 = .ok (.ireturn, 1) := by decide +kernel
theorem dX1_joined_102 : decode mX1_joined.2.1 102 = .ok (.iload_n 1, 1) := by decide +kernel
theorem dX1_joined_103 : decode mX1_joined.2.1 103 = .ok (.iload_n 2, 1) := by decide +kernel
theorem dX1_joined_104 : decode mX1_joined.2.1 104 = .ok (.if_icmp .ne 7, 3) := by decide +kernel
theorem dX1_joined_107 : decode mX1_joined.2.1 107 = .ok (.iconst 1, 1) := by decide +kernel
theorem dX1_joined_108 : decode mX1_joined.2.1 108 = .ok (.goto 4, 3) := by decide +kernel
theorem dX1_joined_111 : decode mX1_joined.2.1 111 = .ok (.iconst 0, 1) := by decide +kernel
theorem dX1_joined_112 : decode mX1_joined.2.1 112 = .ok (.ireturn, 1) := by decide +kernel
theorem dX1_joined_113 : decode mX1_joined.2.1 113 = .ok (.iload_n 1, 1) := by decide +kernel
theorem dX1_joined_114 : decode mX1_joined.2.1 114 = .ok (.iload_n 2, 1) := by decide +kernel
theorem dX1_joined_115 : decode mX1_joined.2.1 115 = .ok (.iadd, 1) := by decide +kernel
theorem dX1_joined_116 : decode mX1_joined.2.1 116 = .ok (.ireturn, 1) := by decide +kernel
theorem dX1_joined_117 : decode mX1_joined.2.1 117 = .ok (.iload_n 1, 1) := by decide +kernel
theorem dX1_joined_118 : decode mX1_joined.2.1 118 = .ok (.iload_n 2, 1) := by decide +kernel
theorem dX1_joined_119 : decode mX1_joined.2.1 119 = .ok (.isub, 1) := by decide +kernel
theorem dX1_joined_120 : decode mX1_joined.2.1 120 = .ok (.ireturn, 1) := by decide +kernel
theorem dX1_joined_121 : decode mX1_joined.2.1 121 = .ok (.iload_n 1, 1) := by decide +kernel
theorem dX1_joined_122 : decode mX1_joined.2.1 122 = .ok (.iload_n 2, 1) := by decide +kernel
theorem dX1_joined_123 : decode mX1_joined.2.1 123 = .ok (.imul, 1) := by decide +kernel
theorem dX1_joined_124 : decode mX1_joined.2.1 124 = .ok (.ireturn, 1) := by decide +kernel
theorem dX1_joined_125 : decode mX1_joined.2.1 125 = .ok (.iload_n 2, 1) := by decide +kernel
theorem dX1_joined_126 : decode mX1_joined.2.1 126 = .ok (.ifCond .ne 7, 3) := by decide +kernel
theorem dX1_joined_129 : decode mX1_joined.2.1 129 = .ok (.iconst 0, 1) := by decide +kernel
theorem dX1_joined_130 : decode mX1_joined.2.1 130 = .ok (.goto 6, 3) := by decide +kernel
theorem dX1_joined_133 : decode mX1_joined.2.1 133 = .ok (.iload_n 1, 1) := by decide +kernel
theorem dX1_joined_134 : decode mX1_joined.2.1 134 = .ok (.iload_n 2, 1) := by decide +kernel
theorem dX1_joined_135 : decode mX1_joined.2.1 135 = .ok (.idiv, 1) := by decide +kernel
theorem dX1_joined_136 : decode mX1_joined.2.1 136 = .ok (.ireturn, 1) := by decide +kernel
theorem dX1_joined_137 : decode mX1_joined.2.1 137 = .ok (.iload_n 2, 1) := by decide +kernel
theorem dX1_joined_138 : decode mX1_joined.2.1 138 = .ok (.ifCond .ne 7, 3) := by decide +kernel
theorem dX1_joined_141 : decode mX1_joined.2.1 141 = .ok (.iconst 0, 1) := by decide +kernel
theorem dX1_joined_142 : decode mX1_joined.2.1 142 = .ok (.goto 6, 3) := by decide +kernel
theorem dX1_joined_145 : decode mX1_joined.2.1 145 = .ok (.iload_n 1, 1) := by decide +kernel
theorem dX1_joined_146 : decode mX1_joined.2.1 146 = .ok (.iload_n 2, 1) := by decide +kernel
theorem dX1_joined_147 : decode mX1_joined.2.1 147 = .ok (.irem, 1) := by decide +kernel
theorem dX1_joined_148 : decode mX1_joined.2.1 148 = .ok (.ireturn, 1) := by decide +kernel
def hX1_joined (x0 : Int32) (x1 : Int32) (x2 : Int32) : Int32 := (if x0 = (-15) then (if x2 = 0 then 0 else (x1 / x2)) else (if x0 = (-14) then (x1 * x2) else (if x0 = (-13) then (x1 - x2) else (if x0 = (-12) then (x1 + x2) else (if x0 = (-11) then (if x1 = x2 then 1 else 0) else (if x0 = (-10) then (if x1 ≤ x2 then 0 else 1) else (if x0 = (-9) then (if x2 ≤ x1 then 0 else 1) else (if x0 = (-8) then (if x1 = 0 then 0 else (if x2 = 0 then 0 else 1)) else (if x0 = (-7) then (if x1 = 0 then (if x2 = 0 then 0 else 1) else 1) else (if x2 = 0 then 0 else (js_rem x1 x2)))))))))))
theorem sX1_joined {E : px_E} {d : Nat} {w : pw_W} {Q : Option Value → pw_W → Prop} {x0 x1 x2 : Int32}   (k : Q (some (.int (hX1_joined x0 x1 x2))) w) : px_Call E (d + 1) 0 0 mX1_joined [.int x0, .int x1, .int x2] w Q := by
  refine px_enter (k := 0) (ls := [.int x0, .int x1, .int x2]) (by decide) (Nat.le_of_ble_eq_true rfl) rfl (px_forget (ls' := [.int x0, .int x1, .int x2]) ?_ ⟨Or.inr rfl, Or.inr rfl, Or.inr rfl, trivial⟩)
  refine px_iload_n dX1_joined_0 rfl rfl ?_
  by_cases h1 : x0 = (-15)
  ·
    refine px_table (tgt := 125) dX1_joined_1 124 (by rw [h1]; decide) (by decide) ?_
    refine px_iload_n dX1_joined_125 rfl rfl ?_
    refine px_if_ne (tgt := 133) dX1_joined_126 (by decide) (fun h2 => ?_) (fun h2 => ?_)
    ·
      refine px_iload_n dX1_joined_133 rfl rfl ?_
      refine px_iload_n dX1_joined_134 rfl rfl ?_
      refine px_idiv dX1_joined_135 h2 ?_
      exact px_ireturn dX1_joined_136 rfl rfl (by unfold hX1_joined at k; rw [if_pos h1, if_neg h2] at k; exact k)
    ·
      refine px_iconst dX1_joined_129 ic_0 ?_
      refine px_goto (tgt := 136) dX1_joined_130 (by decide) ?_
      exact px_ireturn dX1_joined_136 rfl rfl (by unfold hX1_joined at k; rw [if_pos h1, if_pos h2] at k; exact k)
  by_cases h3 : x0 = (-14)
  ·
    refine px_table (tgt := 121) dX1_joined_1 120 (by rw [h3]; decide) (by decide) ?_
    refine px_iload_n dX1_joined_121 rfl rfl ?_
    refine px_iload_n dX1_joined_122 rfl rfl ?_
    refine px_imul dX1_joined_123 ?_
    exact px_ireturn dX1_joined_124 rfl rfl (by unfold hX1_joined at k; rw [if_neg h1, if_pos h3] at k; exact k)
  by_cases h4 : x0 = (-13)
  ·
    refine px_table (tgt := 117) dX1_joined_1 116 (by rw [h4]; decide) (by decide) ?_
    refine px_iload_n dX1_joined_117 rfl rfl ?_
    refine px_iload_n dX1_joined_118 rfl rfl ?_
    refine px_isub dX1_joined_119 ?_
    exact px_ireturn dX1_joined_120 rfl rfl (by unfold hX1_joined at k; rw [if_neg h1, if_neg h3, if_pos h4] at k; exact k)
  by_cases h5 : x0 = (-12)
  ·
    refine px_table (tgt := 113) dX1_joined_1 112 (by rw [h5]; decide) (by decide) ?_
    refine px_iload_n dX1_joined_113 rfl rfl ?_
    refine px_iload_n dX1_joined_114 rfl rfl ?_
    refine px_iadd dX1_joined_115 ?_
    exact px_ireturn dX1_joined_116 rfl rfl (by unfold hX1_joined at k; rw [if_neg h1, if_neg h3, if_neg h4, if_pos h5] at k; exact k)
  by_cases h6 : x0 = (-11)
  ·
    refine px_table (tgt := 102) dX1_joined_1 101 (by rw [h6]; decide) (by decide) ?_
    refine px_iload_n dX1_joined_102 rfl rfl ?_
    refine px_iload_n dX1_joined_103 rfl rfl ?_
    refine px_icmp_ne (tgt := 111) dX1_joined_104 (by decide) (fun h7 => ?_) (fun h7 => ?_)
    ·
      refine px_iconst dX1_joined_111 ic_0 ?_
      exact px_ireturn dX1_joined_112 rfl rfl (by unfold hX1_joined at k; rw [if_neg h1, if_neg h3, if_neg h4, if_neg h5, if_pos h6, if_neg h7] at k; exact k)
    ·
      refine px_iconst dX1_joined_107 ic_1 ?_
      refine px_goto (tgt := 112) dX1_joined_108 (by decide) ?_
      exact px_ireturn dX1_joined_112 rfl rfl (by unfold hX1_joined at k; rw [if_neg h1, if_neg h3, if_neg h4, if_neg h5, if_pos h6, if_pos h7] at k; exact k)
  by_cases h8 : x0 = (-10)
  ·
    refine px_table (tgt := 91) dX1_joined_1 90 (by rw [h8]; decide) (by decide) ?_
    refine px_iload_n dX1_joined_91 rfl rfl ?_
    refine px_iload_n dX1_joined_92 rfl rfl ?_
    refine px_icmp_le (tgt := 100) dX1_joined_93 (by decide) (fun h9 => ?_) (fun h9 => ?_)
    ·
      refine px_iconst dX1_joined_100 ic_0 ?_
      exact px_ireturn dX1_joined_101 rfl rfl (by unfold hX1_joined at k; rw [if_neg h1, if_neg h3, if_neg h4, if_neg h5, if_neg h6, if_pos h8, if_pos h9] at k; exact k)
    ·
      refine px_iconst dX1_joined_96 ic_1 ?_
      refine px_goto (tgt := 101) dX1_joined_97 (by decide) ?_
      exact px_ireturn dX1_joined_101 rfl rfl (by unfold hX1_joined at k; rw [if_neg h1, if_neg h3, if_neg h4, if_neg h5, if_neg h6, if_pos h8, if_neg h9] at k; exact k)
  by_cases h10 : x0 = (-9)
  ·
    refine px_table (tgt := 80) dX1_joined_1 79 (by rw [h10]; decide) (by decide) ?_
    refine px_iload_n dX1_joined_80 rfl rfl ?_
    refine px_iload_n dX1_joined_81 rfl rfl ?_
    refine px_icmp_ge (tgt := 89) dX1_joined_82 (by decide) (fun h11 => ?_) (fun h11 => ?_)
    ·
      refine px_iconst dX1_joined_89 ic_0 ?_
      exact px_ireturn dX1_joined_90 rfl rfl (by unfold hX1_joined at k; rw [if_neg h1, if_neg h3, if_neg h4, if_neg h5, if_neg h6, if_neg h8, if_pos h10, if_pos h11] at k; exact k)
    ·
      refine px_iconst dX1_joined_85 ic_1 ?_
      refine px_goto (tgt := 90) dX1_joined_86 (by decide) ?_
      exact px_ireturn dX1_joined_90 rfl rfl (by unfold hX1_joined at k; rw [if_neg h1, if_neg h3, if_neg h4, if_neg h5, if_neg h6, if_neg h8, if_pos h10, if_neg h11] at k; exact k)
  by_cases h12 : x0 = (-8)
  ·
    refine px_table (tgt := 66) dX1_joined_1 65 (by rw [h12]; decide) (by decide) ?_
    refine px_iload_n dX1_joined_66 rfl rfl ?_
    refine px_if_eq (tgt := 78) dX1_joined_67 (by decide) (fun h13 => ?_) (fun h13 => ?_)
    ·
      refine px_iconst dX1_joined_78 ic_0 ?_
      exact px_ireturn dX1_joined_79 rfl rfl (by unfold hX1_joined at k; rw [if_neg h1, if_neg h3, if_neg h4, if_neg h5, if_neg h6, if_neg h8, if_neg h10, if_pos h12, if_pos h13] at k; exact k)
    ·
      refine px_iload_n dX1_joined_70 rfl rfl ?_
      refine px_if_eq (tgt := 78) dX1_joined_71 (by decide) (fun h14 => ?_) (fun h14 => ?_)
      ·
        refine px_iconst dX1_joined_78 ic_0 ?_
        exact px_ireturn dX1_joined_79 rfl rfl (by unfold hX1_joined at k; rw [if_neg h1, if_neg h3, if_neg h4, if_neg h5, if_neg h6, if_neg h8, if_neg h10, if_pos h12, if_neg h13, if_pos h14] at k; exact k)
      ·
        refine px_iconst dX1_joined_74 ic_1 ?_
        refine px_goto (tgt := 79) dX1_joined_75 (by decide) ?_
        exact px_ireturn dX1_joined_79 rfl rfl (by unfold hX1_joined at k; rw [if_neg h1, if_neg h3, if_neg h4, if_neg h5, if_neg h6, if_neg h8, if_neg h10, if_pos h12, if_neg h13, if_neg h14] at k; exact k)
  by_cases h15 : x0 = (-7)
  ·
    refine px_table (tgt := 52) dX1_joined_1 51 (by rw [h15]; decide) (by decide) ?_
    refine px_iload_n dX1_joined_52 rfl rfl ?_
    refine px_if_ne (tgt := 60) dX1_joined_53 (by decide) (fun h16 => ?_) (fun h16 => ?_)
    ·
      refine px_iconst dX1_joined_60 ic_1 ?_
      refine px_goto (tgt := 65) dX1_joined_61 (by decide) ?_
      exact px_ireturn dX1_joined_65 rfl rfl (by unfold hX1_joined at k; rw [if_neg h1, if_neg h3, if_neg h4, if_neg h5, if_neg h6, if_neg h8, if_neg h10, if_neg h12, if_pos h15, if_neg h16] at k; exact k)
    ·
      refine px_iload_n dX1_joined_56 rfl rfl ?_
      refine px_if_eq (tgt := 64) dX1_joined_57 (by decide) (fun h17 => ?_) (fun h17 => ?_)
      ·
        refine px_iconst dX1_joined_64 ic_0 ?_
        exact px_ireturn dX1_joined_65 rfl rfl (by unfold hX1_joined at k; rw [if_neg h1, if_neg h3, if_neg h4, if_neg h5, if_neg h6, if_neg h8, if_neg h10, if_neg h12, if_pos h15, if_pos h16, if_pos h17] at k; exact k)
      ·
        refine px_iconst dX1_joined_60 ic_1 ?_
        refine px_goto (tgt := 65) dX1_joined_61 (by decide) ?_
        exact px_ireturn dX1_joined_65 rfl rfl (by unfold hX1_joined at k; rw [if_neg h1, if_neg h3, if_neg h4, if_neg h5, if_neg h6, if_neg h8, if_neg h10, if_neg h12, if_pos h15, if_pos h16, if_neg h17] at k; exact k)
  refine px_table (tgt := 137) dX1_joined_1 136 (by have a1015 := lv_neT h1 (show ((-15) : Int32).toInt = (-15) from by decide); have a1014 := lv_neT h3 (show ((-14) : Int32).toInt = (-14) from by decide); have a1013 := lv_neT h4 (show ((-13) : Int32).toInt = (-13) from by decide); have a1012 := lv_neT h5 (show ((-12) : Int32).toInt = (-12) from by decide); have a1011 := lv_neT h6 (show ((-11) : Int32).toInt = (-11) from by decide); have a1010 := lv_neT h8 (show ((-10) : Int32).toInt = (-10) from by decide); have a1009 := lv_neT h10 (show ((-9) : Int32).toInt = (-9) from by decide); have a1008 := lv_neT h12 (show ((-8) : Int32).toInt = (-8) from by decide); have a1007 := lv_neT h15 (show ((-7) : Int32).toInt = (-7) from by decide); rw [if_pos (by omega)]) (by decide) ?_
  refine px_iload_n dX1_joined_137 rfl rfl ?_
  refine px_if_ne (tgt := 145) dX1_joined_138 (by decide) (fun h18 => ?_) (fun h18 => ?_)
  ·
    refine px_iload_n dX1_joined_145 rfl rfl ?_
    refine px_iload_n dX1_joined_146 rfl rfl ?_
    refine px_irem dX1_joined_147 h18 ?_
    exact px_ireturn dX1_joined_148 rfl rfl (by unfold hX1_joined at k; rw [if_neg h1, if_neg h3, if_neg h4, if_neg h5, if_neg h6, if_neg h8, if_neg h10, if_neg h12, if_neg h15, if_neg h18] at k; exact k)
  ·
    refine px_iconst dX1_joined_141 ic_0 ?_
    refine px_goto (tgt := 148) dX1_joined_142 (by decide) ?_
    exact px_ireturn dX1_joined_148 rfl rfl (by unfold hX1_joined at k; rw [if_neg h1, if_neg h3, if_neg h4, if_neg h5, if_neg h6, if_neg h8, if_neg h10, if_neg h12, if_neg h15, if_pos h18] at k; exact k)
theorem dX5_unitAt_0 : decode mX5_unitAt.2.1 0 = .ok (.aload_n 0, 1) := by decide +kernel
theorem dX5_unitAt_1 : decode mX5_unitAt.2.1 1 = .ok (.getfield 12, 3) := by decide +kernel
theorem dX5_unitAt_4 : decode mX5_unitAt.2.1 4 = .ok (.getfield 49, 3) := by decide +kernel
theorem dX5_unitAt_7 : decode mX5_unitAt.2.1 7 = .ok (.iconst 2, 1) := by decide +kernel
theorem dX5_unitAt_8 : decode mX5_unitAt.2.1 8 = .ok (.if_icmp .ne 11, 3) := by decide +kernel
theorem dX5_unitAt_11 : decode mX5_unitAt.2.1 11 = .ok (.aload_n 0, 1) := by decide +kernel
theorem dX5_unitAt_12 : decode mX5_unitAt.2.1 12 = .ok (.getfield 12, 3) := by decide +kernel
theorem dX5_unitAt_15 : decode mX5_unitAt.2.1 15 = .ok (.getfield 59, 3) := by decide +kernel
theorem dX5_unitAt_18 : decode mX5_unitAt.2.1 18 = .ok (.ireturn, 1) := by decide +kernel
theorem dX5_unitAt_19 : decode mX5_unitAt.2.1 19 = .ok (.aload_n 0, 1) := by decide +kernel
theorem dX5_unitAt_20 : decode mX5_unitAt.2.1 20 = .ok (.getfield 12, 3) := by decide +kernel
theorem dX5_unitAt_23 : decode mX5_unitAt.2.1 23 = .ok (.getfield 49, 3) := by decide +kernel
theorem dX5_unitAt_26 : decode mX5_unitAt.2.1 26 = .ok (.iconst 4, 1) := by decide +kernel
theorem dX5_unitAt_27 : decode mX5_unitAt.2.1 27 = .ok (.if_icmp .eq 6, 3) := by decide +kernel
theorem dX5_unitAt_30 : decode mX5_unitAt.2.1 30 = .ok (.bipush (-100), 2) := by decide +kernel
theorem dX5_unitAt_32 : decode mX5_unitAt.2.1 32 = .ok (.ireturn, 1) := by decide +kernel
theorem dX5_unitAt_33 : decode mX5_unitAt.2.1 33 = .ok (.aload_n 0, 1) := by decide +kernel
theorem dX5_unitAt_34 : decode mX5_unitAt.2.1 34 = .ok (.getfield 12, 3) := by decide +kernel
theorem dX5_unitAt_37 : decode mX5_unitAt.2.1 37 = .ok (.getfield 59, 3) := by decide +kernel
theorem dX5_unitAt_40 : decode mX5_unitAt.2.1 40 = .ok (.tableswitch 50 15 19 #[36, 38, 41, 44, 47], 36) := by decide +kernel
theorem dX5_unitAt_76 : decode mX5_unitAt.2.1 76 = .ok (.iconst (-1), 1) := by decide +kernel
theorem dX5_unitAt_77 : decode mX5_unitAt.2.1 77 = .ok (.ireturn, 1) := by decide +kernel
theorem dX5_unitAt_78 : decode mX5_unitAt.2.1 78 = .ok (.bipush (-2), 2) := by decide +kernel
theorem dX5_unitAt_80 : decode mX5_unitAt.2.1 80 = .ok (.ireturn, 1) := by decide +kernel
theorem dX5_unitAt_81 : decode mX5_unitAt.2.1 81 = .ok (.bipush (-3), 2) := by decide +kernel
theorem dX5_unitAt_83 : decode mX5_unitAt.2.1 83 = .ok (.ireturn, 1) := by decide +kernel
theorem dX5_unitAt_84 : decode mX5_unitAt.2.1 84 = .ok (.bipush (-4), 2) := by decide +kernel
theorem dX5_unitAt_86 : decode mX5_unitAt.2.1 86 = .ok (.ireturn, 1) := by decide +kernel
theorem dX5_unitAt_87 : decode mX5_unitAt.2.1 87 = .ok (.bipush (-5), 2) := by decide +kernel
theorem dX5_unitAt_89 : decode mX5_unitAt.2.1 89 = .ok (.ireturn, 1) := by decide +kernel
theorem dX5_unitAt_90 : decode mX5_unitAt.2.1 90 = .ok (.bipush (-100), 2) := by decide +kernel
theorem dX5_unitAt_92 : decode mX5_unitAt.2.1 92 = .ok (.ireturn, 1) := by decide +kernel
def hX5_unitAt (w : pw_W) : Int32 := (if (pw_I w 17 4) = 2 then (pw_I w 17 5) else (if (pw_I w 17 4) = 4 then (if (pw_I w 17 5) = 15 then (-1) else (if (pw_I w 17 5) = 16 then (-2) else (if (pw_I w 17 5) = 17 then (-3) else (if (pw_I w 17 5) = 18 then (-4) else (if (pw_I w 17 5) = 19 then (-5) else (-100)))))) else (-100)))
theorem sX5_unitAt {E : px_E} {d : Nat} {w : pw_W} {Q : Option Value → pw_W → Prop} {t : ct_T} (hw : w.1 = cs t)   (k : Q (some (.int (hX5_unitAt w))) w) : px_Call E (d + 1) 0 0 mX5_unitAt [.ref 16] w Q := by
  refine px_enter (k := 0) (ls := [.ref 16]) (by decide) (Nat.le_of_ble_eq_true rfl) rfl (px_forget (ls' := [.ref 16]) ?_ ⟨Or.inr rfl, trivial⟩)
  refine px_aload_n dX5_unitAt_0 rfl rfl ?_
  refine px_getR (v := 17) dX5_unitAt_1 fr_5_12 rfl (px_sh1 hw sh_16) (px_rf hw rf_16_0) (by decide) ?_
  refine px_getI dX5_unitAt_4 fr_5_49 rfl (px_sh1 hw sh_17) ?_
  refine px_iconst dX5_unitAt_7 ic_2 ?_
  refine px_icmp_ne (tgt := 19) dX5_unitAt_8 (by decide) (fun h1 => ?_) (fun h1 => ?_)
  ·
    refine px_aload_n dX5_unitAt_19 rfl rfl ?_
    refine px_getR (v := 17) dX5_unitAt_20 fr_5_12 rfl (px_sh1 hw sh_16) (px_rf hw rf_16_0) (by decide) ?_
    refine px_getI dX5_unitAt_23 fr_5_49 rfl (px_sh1 hw sh_17) ?_
    refine px_iconst dX5_unitAt_26 ic_4 ?_
    refine px_icmp_eq (tgt := 33) dX5_unitAt_27 (by decide) (fun h2 => ?_) (fun h2 => ?_)
    ·
      refine px_aload_n dX5_unitAt_33 rfl rfl ?_
      refine px_getR (v := 17) dX5_unitAt_34 fr_5_12 rfl (px_sh1 hw sh_16) (px_rf hw rf_16_0) (by decide) ?_
      refine px_getI dX5_unitAt_37 fr_5_59 rfl (px_sh1 hw sh_17) ?_
      by_cases h3 : (pw_I w 17 5) = 15
      ·
        refine px_table (tgt := 76) dX5_unitAt_40 36 (by rw [h3]; decide) (by decide) ?_
        refine px_iconst dX5_unitAt_76 ic_m1 ?_
        exact px_ireturn dX5_unitAt_77 rfl rfl (by unfold hX5_unitAt at k; rw [if_neg h1, if_pos h2, if_pos h3] at k; exact k)
      by_cases h4 : (pw_I w 17 5) = 16
      ·
        refine px_table (tgt := 78) dX5_unitAt_40 38 (by rw [h4]; decide) (by decide) ?_
        refine px_bipush dX5_unitAt_78 bp_m2 ?_
        exact px_ireturn dX5_unitAt_80 rfl rfl (by unfold hX5_unitAt at k; rw [if_neg h1, if_pos h2, if_neg h3, if_pos h4] at k; exact k)
      by_cases h5 : (pw_I w 17 5) = 17
      ·
        refine px_table (tgt := 81) dX5_unitAt_40 41 (by rw [h5]; decide) (by decide) ?_
        refine px_bipush dX5_unitAt_81 bp_m3 ?_
        exact px_ireturn dX5_unitAt_83 rfl rfl (by unfold hX5_unitAt at k; rw [if_neg h1, if_pos h2, if_neg h3, if_neg h4, if_pos h5] at k; exact k)
      by_cases h6 : (pw_I w 17 5) = 18
      ·
        refine px_table (tgt := 84) dX5_unitAt_40 44 (by rw [h6]; decide) (by decide) ?_
        refine px_bipush dX5_unitAt_84 bp_m4 ?_
        exact px_ireturn dX5_unitAt_86 rfl rfl (by unfold hX5_unitAt at k; rw [if_neg h1, if_pos h2, if_neg h3, if_neg h4, if_neg h5, if_pos h6] at k; exact k)
      by_cases h7 : (pw_I w 17 5) = 19
      ·
        refine px_table (tgt := 87) dX5_unitAt_40 47 (by rw [h7]; decide) (by decide) ?_
        refine px_bipush dX5_unitAt_87 bp_m5 ?_
        exact px_ireturn dX5_unitAt_89 rfl rfl (by unfold hX5_unitAt at k; rw [if_neg h1, if_pos h2, if_neg h3, if_neg h4, if_neg h5, if_neg h6, if_pos h7] at k; exact k)
      refine px_table (tgt := 90) dX5_unitAt_40 50 (by have a15 := lv_neT h3 (show (15 : Int32).toInt = 15 from by decide); have a16 := lv_neT h4 (show (16 : Int32).toInt = 16 from by decide); have a17 := lv_neT h5 (show (17 : Int32).toInt = 17 from by decide); have a18 := lv_neT h6 (show (18 : Int32).toInt = 18 from by decide); have a19 := lv_neT h7 (show (19 : Int32).toInt = 19 from by decide); rw [if_pos (by omega)]) (by decide) ?_
      refine px_bipush dX5_unitAt_90 bp_m100 ?_
      exact px_ireturn dX5_unitAt_92 rfl rfl (by unfold hX5_unitAt at k; rw [if_neg h1, if_pos h2, if_neg h3, if_neg h4, if_neg h5, if_neg h6, if_neg h7] at k; exact k)
    ·
      refine px_bipush dX5_unitAt_30 bp_m100 ?_
      exact px_ireturn dX5_unitAt_32 rfl rfl (by unfold hX5_unitAt at k; rw [if_neg h1, if_neg h2] at k; exact k)
  ·
    refine px_aload_n dX5_unitAt_11 rfl rfl ?_
    refine px_getR (v := 17) dX5_unitAt_12 fr_5_12 rfl (px_sh1 hw sh_16) (px_rf hw rf_16_0) (by decide) ?_
    refine px_getI dX5_unitAt_15 fr_5_59 rfl (px_sh1 hw sh_17) ?_
    exact px_ireturn dX5_unitAt_18 rfl rfl (by unfold hX5_unitAt at k; rw [if_pos h1] at k; exact k)
theorem dX5_operatorAt_0 : decode mX5_operatorAt.2.1 0 = .ok (.aload_n 0, 1) := by decide +kernel
theorem dX5_operatorAt_1 : decode mX5_operatorAt.2.1 1 = .ok (.getfield 12, 3) := by decide +kernel
theorem dX5_operatorAt_4 : decode mX5_operatorAt.2.1 4 = .ok (.getfield 49, 3) := by decide +kernel
theorem dX5_operatorAt_7 : decode mX5_operatorAt.2.1 7 = .ok (.iconst 4, 1) := by decide +kernel
theorem dX5_operatorAt_8 : decode mX5_operatorAt.2.1 8 = .ok (.if_icmp .ne 47, 3) := by decide +kernel
theorem dX5_operatorAt_11 : decode mX5_operatorAt.2.1 11 = .ok (.iload_n 1, 1) := by decide +kernel
theorem dX5_operatorAt_12 : decode mX5_operatorAt.2.1 12 = .ok (.ifCond .ne 18, 3) := by decide +kernel
theorem dX5_operatorAt_15 : decode mX5_operatorAt.2.1 15 = .ok (.aload_n 0, 1) := by decide +kernel
theorem dX5_operatorAt_16 : decode mX5_operatorAt.2.1 16 = .ok (.getfield 12, 3) := by decide +kernel
theorem dX5_operatorAt_19 : decode mX5_operatorAt.2.1 19 = .ok (.getfield 59, 3) := by decide +kernel
theorem dX5_operatorAt_22 : decode mX5_operatorAt.2.1 22 = .ok (.bipush 12, 2) := by decide +kernel
theorem dX5_operatorAt_24 : decode mX5_operatorAt.2.1 24 = .ok (.if_icmp .ne 6, 3) := by decide +kernel
theorem dX5_operatorAt_27 : decode mX5_operatorAt.2.1 27 = .ok (.bipush (-7), 2) := by decide +kernel
theorem dX5_operatorAt_29 : decode mX5_operatorAt.2.1 29 = .ok (.ireturn, 1) := by decide +kernel
theorem dX5_operatorAt_30 : decode mX5_operatorAt.2.1 30 = .ok (.iload_n 1, 1) := by decide +kernel
theorem dX5_operatorAt_31 : decode mX5_operatorAt.2.1 31 = .ok (.iconst 1, 1) := by decide +kernel
theorem dX5_operatorAt_32 : decode mX5_operatorAt.2.1 32 = .ok (.if_icmp .ne 20, 3) := by decide +kernel
theorem dX5_operatorAt_35 : decode mX5_operatorAt.2.1 35 = .ok (.aload_n 0, 1) := by decide +kernel
theorem dX5_operatorAt_36 : decode mX5_operatorAt.2.1 36 = .ok (.getfield 12, 3) := by decide +kernel
theorem dX5_operatorAt_39 : decode mX5_operatorAt.2.1 39 = .ok (.getfield 59, 3) := by decide +kernel
theorem dX5_operatorAt_42 : decode mX5_operatorAt.2.1 42 = .ok (.bipush 13, 2) := by decide +kernel
theorem dX5_operatorAt_44 : decode mX5_operatorAt.2.1 44 = .ok (.if_icmp .ne 8, 3) := by decide +kernel
theorem dX5_operatorAt_47 : decode mX5_operatorAt.2.1 47 = .ok (.bipush (-8), 2) := by decide +kernel
theorem dX5_operatorAt_49 : decode mX5_operatorAt.2.1 49 = .ok (.goto 5, 3) := by decide +kernel
theorem dX5_operatorAt_52 : decode mX5_operatorAt.2.1 52 = .ok (.bipush (-100), 2) := by decide +kernel
theorem dX5_operatorAt_54 : decode mX5_operatorAt.2.1 54 = .ok (.ireturn, 1) := by decide +kernel
theorem dX5_operatorAt_55 : decode mX5_operatorAt.2.1 55 = .ok (.aload_n 0, 1) := by decide +kernel
theorem dX5_operatorAt_56 : decode mX5_operatorAt.2.1 56 = .ok (.getfield 12, 3) := by decide +kernel
theorem dX5_operatorAt_59 : decode mX5_operatorAt.2.1 59 = .ok (.getfield 49, 3) := by decide +kernel
theorem dX5_operatorAt_62 : decode mX5_operatorAt.2.1 62 = .ok (.iconst 5, 1) := by decide +kernel
theorem dX5_operatorAt_63 : decode mX5_operatorAt.2.1 63 = .ok (.if_icmp .eq 6, 3) := by decide +kernel
theorem dX5_operatorAt_66 : decode mX5_operatorAt.2.1 66 = .ok (.bipush (-100), 2) := by decide +kernel
theorem dX5_operatorAt_68 : decode mX5_operatorAt.2.1 68 = .ok (.ireturn, 1) := by decide +kernel
theorem dX5_operatorAt_69 : decode mX5_operatorAt.2.1 69 = .ok (.aload_n 0, 1) := by decide +kernel
theorem dX5_operatorAt_70 : decode mX5_operatorAt.2.1 70 = .ok (.getfield 12, 3) := by decide +kernel
theorem dX5_operatorAt_73 : decode mX5_operatorAt.2.1 73 = .ok (.getfield 59, 3) := by decide +kernel
theorem dX5_operatorAt_76 : decode mX5_operatorAt.2.1 76 = .ok (.tableswitch 224 37 62 #[211, 224, 224, 224, 224, 185, 159, 224, 172, 224, 198, 224, 224, 224, 224, 224, 224, 224, 224, 224, 224, 224, 224, 120, 146, 133], 120) := by decide +kernel
theorem dX5_operatorAt_196 : decode mX5_operatorAt.2.1 196 = .ok (.iload_n 1, 1) := by decide +kernel
theorem dX5_operatorAt_197 : decode mX5_operatorAt.2.1 197 = .ok (.iconst 2, 1) := by decide +kernel
theorem dX5_operatorAt_198 : decode mX5_operatorAt.2.1 198 = .ok (.if_icmp .ne 8, 3) := by decide +kernel
theorem dX5_operatorAt_201 : decode mX5_operatorAt.2.1 201 = .ok (.bipush (-9), 2) := by decide +kernel
theorem dX5_operatorAt_203 : decode mX5_operatorAt.2.1 203 = .ok (.goto 5, 3) := by decide +kernel
theorem dX5_operatorAt_206 : decode mX5_operatorAt.2.1 206 = .ok (.bipush (-100), 2) := by decide +kernel
theorem dX5_operatorAt_208 : decode mX5_operatorAt.2.1 208 = .ok (.ireturn, 1) := by decide +kernel
theorem dX5_operatorAt_209 : decode mX5_operatorAt.2.1 209 = .ok (.iload_n 1, 1) := by decide +kernel
theorem dX5_operatorAt_210 : decode mX5_operatorAt.2.1 210 = .ok (.iconst 2, 1) := by decide +kernel
theorem dX5_operatorAt_211 : decode mX5_operatorAt.2.1 211 = .ok (.if_icmp .ne 8, 3) := by decide +kernel
theorem dX5_operatorAt_214 : decode mX5_operatorAt.2.1 214 = .ok (.bipush (-10), 2) := by decide +kernel
theorem dX5_operatorAt_216 : decode mX5_operatorAt.2.1 216 = .ok (.goto 5, 3) := by decide +kernel
theorem dX5_operatorAt_219 : decode mX5_operatorAt.2.1 219 = .ok (.bipush (-100), 2) := by decide +kernel
theorem dX5_operatorAt_221 : decode mX5_operatorAt.2.1 221 = .ok (.ireturn, 1) := by decide +kernel
theorem dX5_operatorAt_222 : decode mX5_operatorAt.2.1 222 = .ok (.iload_n 1, 1) := by decide +kernel
theorem dX5_operatorAt_223 : decode mX5_operatorAt.2.1 223 = .ok (.iconst 2, 1) := by decide +kernel
theorem dX5_operatorAt_224 : decode mX5_operatorAt.2.1 224 = .ok (.if_icmp .ne 8, 3) := by decide +kernel
theorem dX5_operatorAt_227 : decode mX5_operatorAt.2.1 227 = .ok (.bipush (-11), 2) := by decide +kernel
theorem dX5_operatorAt_229 : decode mX5_operatorAt.2.1 229 = .ok (.goto 5, 3) := by decide +kernel
theorem dX5_operatorAt_232 : decode mX5_operatorAt.2.1 232 = .ok (.bipush (-100), 2) := by decide +kernel
theorem dX5_operatorAt_234 : decode mX5_operatorAt.2.1 234 = .ok (.ireturn, 1) := by decide +kernel
theorem dX5_operatorAt_235 : decode mX5_operatorAt.2.1 235 = .ok (.iload_n 1, 1) := by decide +kernel
theorem dX5_operatorAt_236 : decode mX5_operatorAt.2.1 236 = .ok (.iconst 3, 1) := by decide +kernel
theorem dX5_operatorAt_237 : decode mX5_operatorAt.2.1 237 = .ok (.if_icmp .ne 8, 3) := by decide +kernel
theorem dX5_operatorAt_240 : decode mX5_operatorAt.2.1 240 = .ok (.bipush (-12), 2) := by decide +kernel
theorem dX5_operatorAt_242 : decode mX5_operatorAt.2.1 242 = .ok (.goto 5, 3) := by decide +kernel
theorem dX5_operatorAt_245 : decode mX5_operatorAt.2.1 245 = .ok (.bipush (-100), 2) := by decide +kernel
theorem dX5_operatorAt_247 : decode mX5_operatorAt.2.1 247 = .ok (.ireturn, 1) := by decide +kernel
theorem dX5_operatorAt_248 : decode mX5_operatorAt.2.1 248 = .ok (.iload_n 1, 1) := by decide +kernel
theorem dX5_operatorAt_249 : decode mX5_operatorAt.2.1 249 = .ok (.iconst 3, 1) := by decide +kernel
theorem dX5_operatorAt_250 : decode mX5_operatorAt.2.1 250 = .ok (.if_icmp .ne 8, 3) := by decide +kernel
theorem dX5_operatorAt_253 : decode mX5_operatorAt.2.1 253 = .ok (.bipush (-13), 2) := by decide +kernel
theorem dX5_operatorAt_255 : decode mX5_operatorAt.2.1 255 = .ok (.goto 5, 3) := by decide +kernel
theorem dX5_operatorAt_258 : decode mX5_operatorAt.2.1 258 = .ok (.bipush (-100), 2) := by decide +kernel
theorem dX5_operatorAt_260 : decode mX5_operatorAt.2.1 260 = .ok (.ireturn, 1) := by decide +kernel
theorem dX5_operatorAt_261 : decode mX5_operatorAt.2.1 261 = .ok (.iload_n 1, 1) := by decide +kernel
theorem dX5_operatorAt_262 : decode mX5_operatorAt.2.1 262 = .ok (.iconst 4, 1) := by decide +kernel
theorem dX5_operatorAt_263 : decode mX5_operatorAt.2.1 263 = .ok (.if_icmp .ne 8, 3) := by decide +kernel
theorem dX5_operatorAt_266 : decode mX5_operatorAt.2.1 266 = .ok (.bipush (-14), 2) := by decide +kernel
theorem dX5_operatorAt_268 : decode mX5_operatorAt.2.1 268 = .ok (.goto 5, 3) := by decide +kernel
theorem dX5_operatorAt_271 : decode mX5_operatorAt.2.1 271 = .ok (.bipush (-100), 2) := by decide +kernel
theorem dX5_operatorAt_273 : decode mX5_operatorAt.2.1 273 = .ok (.ireturn, 1) := by decide +kernel
theorem dX5_operatorAt_274 : decode mX5_operatorAt.2.1 274 = .ok (.iload_n 1, 1) := by decide +kernel
theorem dX5_operatorAt_275 : decode mX5_operatorAt.2.1 275 = .ok (.iconst 4, 1) := by decide +kernel
theorem dX5_operatorAt_276 : decode mX5_operatorAt.2.1 276 = .ok (.if_icmp .ne 8, 3) := by decide +kernel
theorem dX5_operatorAt_279 : decode mX5_operatorAt.2.1 279 = .ok (.bipush (-15), 2) := by decide +kernel
theorem dX5_operatorAt_281 : decode mX5_operatorAt.2.1 281 = .ok (.goto 5, 3) := by decide +kernel
theorem dX5_operatorAt_284 : decode mX5_operatorAt.2.1 284 = .ok (.bipush (-100), 2) := by decide +kernel
theorem dX5_operatorAt_286 : decode mX5_operatorAt.2.1 286 = .ok (.ireturn, 1) := by decide +kernel
theorem dX5_operatorAt_287 : decode mX5_operatorAt.2.1 287 = .ok (.iload_n 1, 1) := by decide +kernel
theorem dX5_operatorAt_288 : decode mX5_operatorAt.2.1 288 = .ok (.iconst 4, 1) := by decide +kernel
theorem dX5_operatorAt_289 : decode mX5_operatorAt.2.1 289 = .ok (.if_icmp .ne 8, 3) := by decide +kernel
theorem dX5_operatorAt_292 : decode mX5_operatorAt.2.1 292 = .ok (.bipush (-16), 2) := by decide +kernel
theorem dX5_operatorAt_294 : decode mX5_operatorAt.2.1 294 = .ok (.goto 5, 3) := by decide +kernel
theorem dX5_operatorAt_297 : decode mX5_operatorAt.2.1 297 = .ok (.bipush (-100), 2) := by decide +kernel
theorem dX5_operatorAt_299 : decode mX5_operatorAt.2.1 299 = .ok (.ireturn, 1) := by decide +kernel
theorem dX5_operatorAt_300 : decode mX5_operatorAt.2.1 300 = .ok (.bipush (-100), 2) := by decide +kernel
theorem dX5_operatorAt_302 : decode mX5_operatorAt.2.1 302 = .ok (.ireturn, 1) := by decide +kernel
def hX5_operatorAt (w : pw_W) (x1 : Int32) : Int32 := (if (pw_I w 17 4) = 4 then (if x1 = 0 then (if (pw_I w 17 5) = 12 then (-7) else (if x1 = 1 then (if (pw_I w 17 5) = 13 then (-8) else (-100)) else (-100))) else (if x1 = 1 then (if (pw_I w 17 5) = 13 then (-8) else (-100)) else (-100))) else (if (pw_I w 17 4) = 5 then (if (pw_I w 17 5) = 37 then (if x1 = 4 then (-16) else (-100)) else (if (pw_I w 17 5) = 38 then (-100) else (if (pw_I w 17 5) = 39 then (-100) else (if (pw_I w 17 5) = 40 then (-100) else (if (pw_I w 17 5) = 41 then (-100) else (if (pw_I w 17 5) = 42 then (if x1 = 4 then (-14) else (-100)) else (if (pw_I w 17 5) = 43 then (if x1 = 3 then (-12) else (-100)) else (if (pw_I w 17 5) = 44 then (-100) else (if (pw_I w 17 5) = 45 then (if x1 = 3 then (-13) else (-100)) else (if (pw_I w 17 5) = 46 then (-100) else (if (pw_I w 17 5) = 47 then (if x1 = 4 then (-15) else (-100)) else (if (pw_I w 17 5) = 48 then (-100) else (if (pw_I w 17 5) = 49 then (-100) else (if (pw_I w 17 5) = 50 then (-100) else (if (pw_I w 17 5) = 51 then (-100) else (if (pw_I w 17 5) = 52 then (-100) else (if (pw_I w 17 5) = 53 then (-100) else (if (pw_I w 17 5) = 54 then (-100) else (if (pw_I w 17 5) = 55 then (-100) else (if (pw_I w 17 5) = 56 then (-100) else (if (pw_I w 17 5) = 57 then (-100) else (if (pw_I w 17 5) = 58 then (-100) else (if (pw_I w 17 5) = 59 then (-100) else (if (pw_I w 17 5) = 60 then (if x1 = 2 then (-9) else (-100)) else (if (pw_I w 17 5) = 61 then (if x1 = 2 then (-11) else (-100)) else (if (pw_I w 17 5) = 62 then (if x1 = 2 then (-10) else (-100)) else (-100))))))))))))))))))))))))))) else (-100)))
theorem sX5_operatorAt {E : px_E} {d : Nat} {w : pw_W} {Q : Option Value → pw_W → Prop} {t : ct_T} (hw : w.1 = cs t) {x1 : Int32}   (k : Q (some (.int (hX5_operatorAt w x1))) w) : px_Call E (d + 1) 0 0 mX5_operatorAt [.ref 16, .int x1] w Q := by
  refine px_enter (k := 0) (ls := [.ref 16, .int x1]) (by decide) (Nat.le_of_ble_eq_true rfl) rfl (px_forget (ls' := [.ref 16, .int x1]) ?_ ⟨Or.inr rfl, Or.inr rfl, trivial⟩)
  refine px_aload_n dX5_operatorAt_0 rfl rfl ?_
  refine px_getR (v := 17) dX5_operatorAt_1 fr_5_12 rfl (px_sh1 hw sh_16) (px_rf hw rf_16_0) (by decide) ?_
  refine px_getI dX5_operatorAt_4 fr_5_49 rfl (px_sh1 hw sh_17) ?_
  refine px_iconst dX5_operatorAt_7 ic_4 ?_
  refine px_icmp_ne (tgt := 55) dX5_operatorAt_8 (by decide) (fun h1 => ?_) (fun h1 => ?_)
  ·
    refine px_aload_n dX5_operatorAt_55 rfl rfl ?_
    refine px_getR (v := 17) dX5_operatorAt_56 fr_5_12 rfl (px_sh1 hw sh_16) (px_rf hw rf_16_0) (by decide) ?_
    refine px_getI dX5_operatorAt_59 fr_5_49 rfl (px_sh1 hw sh_17) ?_
    refine px_iconst dX5_operatorAt_62 ic_5 ?_
    refine px_icmp_eq (tgt := 69) dX5_operatorAt_63 (by decide) (fun h2 => ?_) (fun h2 => ?_)
    ·
      refine px_aload_n dX5_operatorAt_69 rfl rfl ?_
      refine px_getR (v := 17) dX5_operatorAt_70 fr_5_12 rfl (px_sh1 hw sh_16) (px_rf hw rf_16_0) (by decide) ?_
      refine px_getI dX5_operatorAt_73 fr_5_59 rfl (px_sh1 hw sh_17) ?_
      by_cases h3 : (pw_I w 17 5) = 37
      ·
        refine px_table (tgt := 287) dX5_operatorAt_76 211 (by rw [h3]; decide) (by decide) ?_
        refine px_iload_n dX5_operatorAt_287 rfl rfl ?_
        refine px_iconst dX5_operatorAt_288 ic_4 ?_
        refine px_icmp_ne (tgt := 297) dX5_operatorAt_289 (by decide) (fun h4 => ?_) (fun h4 => ?_)
        ·
          refine px_bipush dX5_operatorAt_297 bp_m100 ?_
          exact px_ireturn dX5_operatorAt_299 rfl rfl (by unfold hX5_operatorAt at k; rw [if_neg h1, if_pos h2, if_pos h3, if_neg h4] at k; exact k)
        ·
          refine px_bipush dX5_operatorAt_292 bp_m16 ?_
          refine px_goto (tgt := 299) dX5_operatorAt_294 (by decide) ?_
          exact px_ireturn dX5_operatorAt_299 rfl rfl (by unfold hX5_operatorAt at k; rw [if_neg h1, if_pos h2, if_pos h3, if_pos h4] at k; exact k)
      by_cases h5 : (pw_I w 17 5) = 38
      ·
        refine px_table (tgt := 300) dX5_operatorAt_76 224 (by rw [h5]; decide) (by decide) ?_
        refine px_bipush dX5_operatorAt_300 bp_m100 ?_
        exact px_ireturn dX5_operatorAt_302 rfl rfl (by unfold hX5_operatorAt at k; rw [if_neg h1, if_pos h2, if_neg h3, if_pos h5] at k; exact k)
      by_cases h6 : (pw_I w 17 5) = 39
      ·
        refine px_table (tgt := 300) dX5_operatorAt_76 224 (by rw [h6]; decide) (by decide) ?_
        refine px_bipush dX5_operatorAt_300 bp_m100 ?_
        exact px_ireturn dX5_operatorAt_302 rfl rfl (by unfold hX5_operatorAt at k; rw [if_neg h1, if_pos h2, if_neg h3, if_neg h5, if_pos h6] at k; exact k)
      by_cases h7 : (pw_I w 17 5) = 40
      ·
        refine px_table (tgt := 300) dX5_operatorAt_76 224 (by rw [h7]; decide) (by decide) ?_
        refine px_bipush dX5_operatorAt_300 bp_m100 ?_
        exact px_ireturn dX5_operatorAt_302 rfl rfl (by unfold hX5_operatorAt at k; rw [if_neg h1, if_pos h2, if_neg h3, if_neg h5, if_neg h6, if_pos h7] at k; exact k)
      by_cases h8 : (pw_I w 17 5) = 41
      ·
        refine px_table (tgt := 300) dX5_operatorAt_76 224 (by rw [h8]; decide) (by decide) ?_
        refine px_bipush dX5_operatorAt_300 bp_m100 ?_
        exact px_ireturn dX5_operatorAt_302 rfl rfl (by unfold hX5_operatorAt at k; rw [if_neg h1, if_pos h2, if_neg h3, if_neg h5, if_neg h6, if_neg h7, if_pos h8] at k; exact k)
      by_cases h9 : (pw_I w 17 5) = 42
      ·
        refine px_table (tgt := 261) dX5_operatorAt_76 185 (by rw [h9]; decide) (by decide) ?_
        refine px_iload_n dX5_operatorAt_261 rfl rfl ?_
        refine px_iconst dX5_operatorAt_262 ic_4 ?_
        refine px_icmp_ne (tgt := 271) dX5_operatorAt_263 (by decide) (fun h10 => ?_) (fun h10 => ?_)
        ·
          refine px_bipush dX5_operatorAt_271 bp_m100 ?_
          exact px_ireturn dX5_operatorAt_273 rfl rfl (by unfold hX5_operatorAt at k; rw [if_neg h1, if_pos h2, if_neg h3, if_neg h5, if_neg h6, if_neg h7, if_neg h8, if_pos h9, if_neg h10] at k; exact k)
        ·
          refine px_bipush dX5_operatorAt_266 bp_m14 ?_
          refine px_goto (tgt := 273) dX5_operatorAt_268 (by decide) ?_
          exact px_ireturn dX5_operatorAt_273 rfl rfl (by unfold hX5_operatorAt at k; rw [if_neg h1, if_pos h2, if_neg h3, if_neg h5, if_neg h6, if_neg h7, if_neg h8, if_pos h9, if_pos h10] at k; exact k)
      by_cases h11 : (pw_I w 17 5) = 43
      ·
        refine px_table (tgt := 235) dX5_operatorAt_76 159 (by rw [h11]; decide) (by decide) ?_
        refine px_iload_n dX5_operatorAt_235 rfl rfl ?_
        refine px_iconst dX5_operatorAt_236 ic_3 ?_
        refine px_icmp_ne (tgt := 245) dX5_operatorAt_237 (by decide) (fun h12 => ?_) (fun h12 => ?_)
        ·
          refine px_bipush dX5_operatorAt_245 bp_m100 ?_
          exact px_ireturn dX5_operatorAt_247 rfl rfl (by unfold hX5_operatorAt at k; rw [if_neg h1, if_pos h2, if_neg h3, if_neg h5, if_neg h6, if_neg h7, if_neg h8, if_neg h9, if_pos h11, if_neg h12] at k; exact k)
        ·
          refine px_bipush dX5_operatorAt_240 bp_m12 ?_
          refine px_goto (tgt := 247) dX5_operatorAt_242 (by decide) ?_
          exact px_ireturn dX5_operatorAt_247 rfl rfl (by unfold hX5_operatorAt at k; rw [if_neg h1, if_pos h2, if_neg h3, if_neg h5, if_neg h6, if_neg h7, if_neg h8, if_neg h9, if_pos h11, if_pos h12] at k; exact k)
      by_cases h13 : (pw_I w 17 5) = 44
      ·
        refine px_table (tgt := 300) dX5_operatorAt_76 224 (by rw [h13]; decide) (by decide) ?_
        refine px_bipush dX5_operatorAt_300 bp_m100 ?_
        exact px_ireturn dX5_operatorAt_302 rfl rfl (by unfold hX5_operatorAt at k; rw [if_neg h1, if_pos h2, if_neg h3, if_neg h5, if_neg h6, if_neg h7, if_neg h8, if_neg h9, if_neg h11, if_pos h13] at k; exact k)
      by_cases h14 : (pw_I w 17 5) = 45
      ·
        refine px_table (tgt := 248) dX5_operatorAt_76 172 (by rw [h14]; decide) (by decide) ?_
        refine px_iload_n dX5_operatorAt_248 rfl rfl ?_
        refine px_iconst dX5_operatorAt_249 ic_3 ?_
        refine px_icmp_ne (tgt := 258) dX5_operatorAt_250 (by decide) (fun h15 => ?_) (fun h15 => ?_)
        ·
          refine px_bipush dX5_operatorAt_258 bp_m100 ?_
          exact px_ireturn dX5_operatorAt_260 rfl rfl (by unfold hX5_operatorAt at k; rw [if_neg h1, if_pos h2, if_neg h3, if_neg h5, if_neg h6, if_neg h7, if_neg h8, if_neg h9, if_neg h11, if_neg h13, if_pos h14, if_neg h15] at k; exact k)
        ·
          refine px_bipush dX5_operatorAt_253 bp_m13 ?_
          refine px_goto (tgt := 260) dX5_operatorAt_255 (by decide) ?_
          exact px_ireturn dX5_operatorAt_260 rfl rfl (by unfold hX5_operatorAt at k; rw [if_neg h1, if_pos h2, if_neg h3, if_neg h5, if_neg h6, if_neg h7, if_neg h8, if_neg h9, if_neg h11, if_neg h13, if_pos h14, if_pos h15] at k; exact k)
      by_cases h16 : (pw_I w 17 5) = 46
      ·
        refine px_table (tgt := 300) dX5_operatorAt_76 224 (by rw [h16]; decide) (by decide) ?_
        refine px_bipush dX5_operatorAt_300 bp_m100 ?_
        exact px_ireturn dX5_operatorAt_302 rfl rfl (by unfold hX5_operatorAt at k; rw [if_neg h1, if_pos h2, if_neg h3, if_neg h5, if_neg h6, if_neg h7, if_neg h8, if_neg h9, if_neg h11, if_neg h13, if_neg h14, if_pos h16] at k; exact k)
      by_cases h17 : (pw_I w 17 5) = 47
      ·
        refine px_table (tgt := 274) dX5_operatorAt_76 198 (by rw [h17]; decide) (by decide) ?_
        refine px_iload_n dX5_operatorAt_274 rfl rfl ?_
        refine px_iconst dX5_operatorAt_275 ic_4 ?_
        refine px_icmp_ne (tgt := 284) dX5_operatorAt_276 (by decide) (fun h18 => ?_) (fun h18 => ?_)
        ·
          refine px_bipush dX5_operatorAt_284 bp_m100 ?_
          exact px_ireturn dX5_operatorAt_286 rfl rfl (by unfold hX5_operatorAt at k; rw [if_neg h1, if_pos h2, if_neg h3, if_neg h5, if_neg h6, if_neg h7, if_neg h8, if_neg h9, if_neg h11, if_neg h13, if_neg h14, if_neg h16, if_pos h17, if_neg h18] at k; exact k)
        ·
          refine px_bipush dX5_operatorAt_279 bp_m15 ?_
          refine px_goto (tgt := 286) dX5_operatorAt_281 (by decide) ?_
          exact px_ireturn dX5_operatorAt_286 rfl rfl (by unfold hX5_operatorAt at k; rw [if_neg h1, if_pos h2, if_neg h3, if_neg h5, if_neg h6, if_neg h7, if_neg h8, if_neg h9, if_neg h11, if_neg h13, if_neg h14, if_neg h16, if_pos h17, if_pos h18] at k; exact k)
      by_cases h19 : (pw_I w 17 5) = 48
      ·
        refine px_table (tgt := 300) dX5_operatorAt_76 224 (by rw [h19]; decide) (by decide) ?_
        refine px_bipush dX5_operatorAt_300 bp_m100 ?_
        exact px_ireturn dX5_operatorAt_302 rfl rfl (by unfold hX5_operatorAt at k; rw [if_neg h1, if_pos h2, if_neg h3, if_neg h5, if_neg h6, if_neg h7, if_neg h8, if_neg h9, if_neg h11, if_neg h13, if_neg h14, if_neg h16, if_neg h17, if_pos h19] at k; exact k)
      by_cases h20 : (pw_I w 17 5) = 49
      ·
        refine px_table (tgt := 300) dX5_operatorAt_76 224 (by rw [h20]; decide) (by decide) ?_
        refine px_bipush dX5_operatorAt_300 bp_m100 ?_
        exact px_ireturn dX5_operatorAt_302 rfl rfl (by unfold hX5_operatorAt at k; rw [if_neg h1, if_pos h2, if_neg h3, if_neg h5, if_neg h6, if_neg h7, if_neg h8, if_neg h9, if_neg h11, if_neg h13, if_neg h14, if_neg h16, if_neg h17, if_neg h19, if_pos h20] at k; exact k)
      by_cases h21 : (pw_I w 17 5) = 50
      ·
        refine px_table (tgt := 300) dX5_operatorAt_76 224 (by rw [h21]; decide) (by decide) ?_
        refine px_bipush dX5_operatorAt_300 bp_m100 ?_
        exact px_ireturn dX5_operatorAt_302 rfl rfl (by unfold hX5_operatorAt at k; rw [if_neg h1, if_pos h2, if_neg h3, if_neg h5, if_neg h6, if_neg h7, if_neg h8, if_neg h9, if_neg h11, if_neg h13, if_neg h14, if_neg h16, if_neg h17, if_neg h19, if_neg h20, if_pos h21] at k; exact k)
      by_cases h22 : (pw_I w 17 5) = 51
      ·
        refine px_table (tgt := 300) dX5_operatorAt_76 224 (by rw [h22]; decide) (by decide) ?_
        refine px_bipush dX5_operatorAt_300 bp_m100 ?_
        exact px_ireturn dX5_operatorAt_302 rfl rfl (by unfold hX5_operatorAt at k; rw [if_neg h1, if_pos h2, if_neg h3, if_neg h5, if_neg h6, if_neg h7, if_neg h8, if_neg h9, if_neg h11, if_neg h13, if_neg h14, if_neg h16, if_neg h17, if_neg h19, if_neg h20, if_neg h21, if_pos h22] at k; exact k)
      by_cases h23 : (pw_I w 17 5) = 52
      ·
        refine px_table (tgt := 300) dX5_operatorAt_76 224 (by rw [h23]; decide) (by decide) ?_
        refine px_bipush dX5_operatorAt_300 bp_m100 ?_
        exact px_ireturn dX5_operatorAt_302 rfl rfl (by unfold hX5_operatorAt at k; rw [if_neg h1, if_pos h2, if_neg h3, if_neg h5, if_neg h6, if_neg h7, if_neg h8, if_neg h9, if_neg h11, if_neg h13, if_neg h14, if_neg h16, if_neg h17, if_neg h19, if_neg h20, if_neg h21, if_neg h22, if_pos h23] at k; exact k)
      by_cases h24 : (pw_I w 17 5) = 53
      ·
        refine px_table (tgt := 300) dX5_operatorAt_76 224 (by rw [h24]; decide) (by decide) ?_
        refine px_bipush dX5_operatorAt_300 bp_m100 ?_
        exact px_ireturn dX5_operatorAt_302 rfl rfl (by unfold hX5_operatorAt at k; rw [if_neg h1, if_pos h2, if_neg h3, if_neg h5, if_neg h6, if_neg h7, if_neg h8, if_neg h9, if_neg h11, if_neg h13, if_neg h14, if_neg h16, if_neg h17, if_neg h19, if_neg h20, if_neg h21, if_neg h22, if_neg h23, if_pos h24] at k; exact k)
      by_cases h25 : (pw_I w 17 5) = 54
      ·
        refine px_table (tgt := 300) dX5_operatorAt_76 224 (by rw [h25]; decide) (by decide) ?_
        refine px_bipush dX5_operatorAt_300 bp_m100 ?_
        exact px_ireturn dX5_operatorAt_302 rfl rfl (by unfold hX5_operatorAt at k; rw [if_neg h1, if_pos h2, if_neg h3, if_neg h5, if_neg h6, if_neg h7, if_neg h8, if_neg h9, if_neg h11, if_neg h13, if_neg h14, if_neg h16, if_neg h17, if_neg h19, if_neg h20, if_neg h21, if_neg h22, if_neg h23, if_neg h24, if_pos h25] at k; exact k)
      by_cases h26 : (pw_I w 17 5) = 55
      ·
        refine px_table (tgt := 300) dX5_operatorAt_76 224 (by rw [h26]; decide) (by decide) ?_
        refine px_bipush dX5_operatorAt_300 bp_m100 ?_
        exact px_ireturn dX5_operatorAt_302 rfl rfl (by unfold hX5_operatorAt at k; rw [if_neg h1, if_pos h2, if_neg h3, if_neg h5, if_neg h6, if_neg h7, if_neg h8, if_neg h9, if_neg h11, if_neg h13, if_neg h14, if_neg h16, if_neg h17, if_neg h19, if_neg h20, if_neg h21, if_neg h22, if_neg h23, if_neg h24, if_neg h25, if_pos h26] at k; exact k)
      by_cases h27 : (pw_I w 17 5) = 56
      ·
        refine px_table (tgt := 300) dX5_operatorAt_76 224 (by rw [h27]; decide) (by decide) ?_
        refine px_bipush dX5_operatorAt_300 bp_m100 ?_
        exact px_ireturn dX5_operatorAt_302 rfl rfl (by unfold hX5_operatorAt at k; rw [if_neg h1, if_pos h2, if_neg h3, if_neg h5, if_neg h6, if_neg h7, if_neg h8, if_neg h9, if_neg h11, if_neg h13, if_neg h14, if_neg h16, if_neg h17, if_neg h19, if_neg h20, if_neg h21, if_neg h22, if_neg h23, if_neg h24, if_neg h25, if_neg h26, if_pos h27] at k; exact k)
      by_cases h28 : (pw_I w 17 5) = 57
      ·
        refine px_table (tgt := 300) dX5_operatorAt_76 224 (by rw [h28]; decide) (by decide) ?_
        refine px_bipush dX5_operatorAt_300 bp_m100 ?_
        exact px_ireturn dX5_operatorAt_302 rfl rfl (by unfold hX5_operatorAt at k; rw [if_neg h1, if_pos h2, if_neg h3, if_neg h5, if_neg h6, if_neg h7, if_neg h8, if_neg h9, if_neg h11, if_neg h13, if_neg h14, if_neg h16, if_neg h17, if_neg h19, if_neg h20, if_neg h21, if_neg h22, if_neg h23, if_neg h24, if_neg h25, if_neg h26, if_neg h27, if_pos h28] at k; exact k)
      by_cases h29 : (pw_I w 17 5) = 58
      ·
        refine px_table (tgt := 300) dX5_operatorAt_76 224 (by rw [h29]; decide) (by decide) ?_
        refine px_bipush dX5_operatorAt_300 bp_m100 ?_
        exact px_ireturn dX5_operatorAt_302 rfl rfl (by unfold hX5_operatorAt at k; rw [if_neg h1, if_pos h2, if_neg h3, if_neg h5, if_neg h6, if_neg h7, if_neg h8, if_neg h9, if_neg h11, if_neg h13, if_neg h14, if_neg h16, if_neg h17, if_neg h19, if_neg h20, if_neg h21, if_neg h22, if_neg h23, if_neg h24, if_neg h25, if_neg h26, if_neg h27, if_neg h28, if_pos h29] at k; exact k)
      by_cases h30 : (pw_I w 17 5) = 59
      ·
        refine px_table (tgt := 300) dX5_operatorAt_76 224 (by rw [h30]; decide) (by decide) ?_
        refine px_bipush dX5_operatorAt_300 bp_m100 ?_
        exact px_ireturn dX5_operatorAt_302 rfl rfl (by unfold hX5_operatorAt at k; rw [if_neg h1, if_pos h2, if_neg h3, if_neg h5, if_neg h6, if_neg h7, if_neg h8, if_neg h9, if_neg h11, if_neg h13, if_neg h14, if_neg h16, if_neg h17, if_neg h19, if_neg h20, if_neg h21, if_neg h22, if_neg h23, if_neg h24, if_neg h25, if_neg h26, if_neg h27, if_neg h28, if_neg h29, if_pos h30] at k; exact k)
      by_cases h31 : (pw_I w 17 5) = 60
      ·
        refine px_table (tgt := 196) dX5_operatorAt_76 120 (by rw [h31]; decide) (by decide) ?_
        refine px_iload_n dX5_operatorAt_196 rfl rfl ?_
        refine px_iconst dX5_operatorAt_197 ic_2 ?_
        refine px_icmp_ne (tgt := 206) dX5_operatorAt_198 (by decide) (fun h32 => ?_) (fun h32 => ?_)
        ·
          refine px_bipush dX5_operatorAt_206 bp_m100 ?_
          exact px_ireturn dX5_operatorAt_208 rfl rfl (by unfold hX5_operatorAt at k; rw [if_neg h1, if_pos h2, if_neg h3, if_neg h5, if_neg h6, if_neg h7, if_neg h8, if_neg h9, if_neg h11, if_neg h13, if_neg h14, if_neg h16, if_neg h17, if_neg h19, if_neg h20, if_neg h21, if_neg h22, if_neg h23, if_neg h24, if_neg h25, if_neg h26, if_neg h27, if_neg h28, if_neg h29, if_neg h30, if_pos h31, if_neg h32] at k; exact k)
        ·
          refine px_bipush dX5_operatorAt_201 bp_m9 ?_
          refine px_goto (tgt := 208) dX5_operatorAt_203 (by decide) ?_
          exact px_ireturn dX5_operatorAt_208 rfl rfl (by unfold hX5_operatorAt at k; rw [if_neg h1, if_pos h2, if_neg h3, if_neg h5, if_neg h6, if_neg h7, if_neg h8, if_neg h9, if_neg h11, if_neg h13, if_neg h14, if_neg h16, if_neg h17, if_neg h19, if_neg h20, if_neg h21, if_neg h22, if_neg h23, if_neg h24, if_neg h25, if_neg h26, if_neg h27, if_neg h28, if_neg h29, if_neg h30, if_pos h31, if_pos h32] at k; exact k)
      by_cases h33 : (pw_I w 17 5) = 61
      ·
        refine px_table (tgt := 222) dX5_operatorAt_76 146 (by rw [h33]; decide) (by decide) ?_
        refine px_iload_n dX5_operatorAt_222 rfl rfl ?_
        refine px_iconst dX5_operatorAt_223 ic_2 ?_
        refine px_icmp_ne (tgt := 232) dX5_operatorAt_224 (by decide) (fun h34 => ?_) (fun h34 => ?_)
        ·
          refine px_bipush dX5_operatorAt_232 bp_m100 ?_
          exact px_ireturn dX5_operatorAt_234 rfl rfl (by unfold hX5_operatorAt at k; rw [if_neg h1, if_pos h2, if_neg h3, if_neg h5, if_neg h6, if_neg h7, if_neg h8, if_neg h9, if_neg h11, if_neg h13, if_neg h14, if_neg h16, if_neg h17, if_neg h19, if_neg h20, if_neg h21, if_neg h22, if_neg h23, if_neg h24, if_neg h25, if_neg h26, if_neg h27, if_neg h28, if_neg h29, if_neg h30, if_neg h31, if_pos h33, if_neg h34] at k; exact k)
        ·
          refine px_bipush dX5_operatorAt_227 bp_m11 ?_
          refine px_goto (tgt := 234) dX5_operatorAt_229 (by decide) ?_
          exact px_ireturn dX5_operatorAt_234 rfl rfl (by unfold hX5_operatorAt at k; rw [if_neg h1, if_pos h2, if_neg h3, if_neg h5, if_neg h6, if_neg h7, if_neg h8, if_neg h9, if_neg h11, if_neg h13, if_neg h14, if_neg h16, if_neg h17, if_neg h19, if_neg h20, if_neg h21, if_neg h22, if_neg h23, if_neg h24, if_neg h25, if_neg h26, if_neg h27, if_neg h28, if_neg h29, if_neg h30, if_neg h31, if_pos h33, if_pos h34] at k; exact k)
      by_cases h35 : (pw_I w 17 5) = 62
      ·
        refine px_table (tgt := 209) dX5_operatorAt_76 133 (by rw [h35]; decide) (by decide) ?_
        refine px_iload_n dX5_operatorAt_209 rfl rfl ?_
        refine px_iconst dX5_operatorAt_210 ic_2 ?_
        refine px_icmp_ne (tgt := 219) dX5_operatorAt_211 (by decide) (fun h36 => ?_) (fun h36 => ?_)
        ·
          refine px_bipush dX5_operatorAt_219 bp_m100 ?_
          exact px_ireturn dX5_operatorAt_221 rfl rfl (by unfold hX5_operatorAt at k; rw [if_neg h1, if_pos h2, if_neg h3, if_neg h5, if_neg h6, if_neg h7, if_neg h8, if_neg h9, if_neg h11, if_neg h13, if_neg h14, if_neg h16, if_neg h17, if_neg h19, if_neg h20, if_neg h21, if_neg h22, if_neg h23, if_neg h24, if_neg h25, if_neg h26, if_neg h27, if_neg h28, if_neg h29, if_neg h30, if_neg h31, if_neg h33, if_pos h35, if_neg h36] at k; exact k)
        ·
          refine px_bipush dX5_operatorAt_214 bp_m10 ?_
          refine px_goto (tgt := 221) dX5_operatorAt_216 (by decide) ?_
          exact px_ireturn dX5_operatorAt_221 rfl rfl (by unfold hX5_operatorAt at k; rw [if_neg h1, if_pos h2, if_neg h3, if_neg h5, if_neg h6, if_neg h7, if_neg h8, if_neg h9, if_neg h11, if_neg h13, if_neg h14, if_neg h16, if_neg h17, if_neg h19, if_neg h20, if_neg h21, if_neg h22, if_neg h23, if_neg h24, if_neg h25, if_neg h26, if_neg h27, if_neg h28, if_neg h29, if_neg h30, if_neg h31, if_neg h33, if_pos h35, if_pos h36] at k; exact k)
      refine px_table (tgt := 300) dX5_operatorAt_76 224 (by have a37 := lv_neT h3 (show (37 : Int32).toInt = 37 from by decide); have a38 := lv_neT h5 (show (38 : Int32).toInt = 38 from by decide); have a39 := lv_neT h6 (show (39 : Int32).toInt = 39 from by decide); have a40 := lv_neT h7 (show (40 : Int32).toInt = 40 from by decide); have a41 := lv_neT h8 (show (41 : Int32).toInt = 41 from by decide); have a42 := lv_neT h9 (show (42 : Int32).toInt = 42 from by decide); have a43 := lv_neT h11 (show (43 : Int32).toInt = 43 from by decide); have a44 := lv_neT h13 (show (44 : Int32).toInt = 44 from by decide); have a45 := lv_neT h14 (show (45 : Int32).toInt = 45 from by decide); have a46 := lv_neT h16 (show (46 : Int32).toInt = 46 from by decide); have a47 := lv_neT h17 (show (47 : Int32).toInt = 47 from by decide); have a48 := lv_neT h19 (show (48 : Int32).toInt = 48 from by decide); have a49 := lv_neT h20 (show (49 : Int32).toInt = 49 from by decide); have a50 := lv_neT h21 (show (50 : Int32).toInt = 50 from by decide); have a51 := lv_neT h22 (show (51 : Int32).toInt = 51 from by decide); have a52 := lv_neT h23 (show (52 : Int32).toInt = 52 from by decide); have a53 := lv_neT h24 (show (53 : Int32).toInt = 53 from by decide); have a54 := lv_neT h25 (show (54 : Int32).toInt = 54 from by decide); have a55 := lv_neT h26 (show (55 : Int32).toInt = 55 from by decide); have a56 := lv_neT h27 (show (56 : Int32).toInt = 56 from by decide); have a57 := lv_neT h28 (show (57 : Int32).toInt = 57 from by decide); have a58 := lv_neT h29 (show (58 : Int32).toInt = 58 from by decide); have a59 := lv_neT h30 (show (59 : Int32).toInt = 59 from by decide); have a60 := lv_neT h31 (show (60 : Int32).toInt = 60 from by decide); have a61 := lv_neT h33 (show (61 : Int32).toInt = 61 from by decide); have a62 := lv_neT h35 (show (62 : Int32).toInt = 62 from by decide); rw [if_pos (by omega)]) (by decide) ?_
      refine px_bipush dX5_operatorAt_300 bp_m100 ?_
      exact px_ireturn dX5_operatorAt_302 rfl rfl (by unfold hX5_operatorAt at k; rw [if_neg h1, if_pos h2, if_neg h3, if_neg h5, if_neg h6, if_neg h7, if_neg h8, if_neg h9, if_neg h11, if_neg h13, if_neg h14, if_neg h16, if_neg h17, if_neg h19, if_neg h20, if_neg h21, if_neg h22, if_neg h23, if_neg h24, if_neg h25, if_neg h26, if_neg h27, if_neg h28, if_neg h29, if_neg h30, if_neg h31, if_neg h33, if_neg h35] at k; exact k)
    ·
      refine px_bipush dX5_operatorAt_66 bp_m100 ?_
      exact px_ireturn dX5_operatorAt_68 rfl rfl (by unfold hX5_operatorAt at k; rw [if_neg h1, if_neg h2] at k; exact k)
  ·
    refine px_iload_n dX5_operatorAt_11 rfl rfl ?_
    refine px_if_ne (tgt := 30) dX5_operatorAt_12 (by decide) (fun h37 => ?_) (fun h37 => ?_)
    ·
      refine px_iload_n dX5_operatorAt_30 rfl rfl ?_
      refine px_iconst dX5_operatorAt_31 ic_1 ?_
      refine px_icmp_ne (tgt := 52) dX5_operatorAt_32 (by decide) (fun h38 => ?_) (fun h38 => ?_)
      ·
        refine px_bipush dX5_operatorAt_52 bp_m100 ?_
        exact px_ireturn dX5_operatorAt_54 rfl rfl (by unfold hX5_operatorAt at k; rw [if_pos h1, if_neg h37, if_neg h38] at k; exact k)
      ·
        refine px_aload_n dX5_operatorAt_35 rfl rfl ?_
        refine px_getR (v := 17) dX5_operatorAt_36 fr_5_12 rfl (px_sh1 hw sh_16) (px_rf hw rf_16_0) (by decide) ?_
        refine px_getI dX5_operatorAt_39 fr_5_59 rfl (px_sh1 hw sh_17) ?_
        refine px_bipush dX5_operatorAt_42 bp_13 ?_
        refine px_icmp_ne (tgt := 52) dX5_operatorAt_44 (by decide) (fun h39 => ?_) (fun h39 => ?_)
        ·
          refine px_bipush dX5_operatorAt_52 bp_m100 ?_
          exact px_ireturn dX5_operatorAt_54 rfl rfl (by unfold hX5_operatorAt at k; rw [if_pos h1, if_neg h37, if_pos h38, if_neg h39] at k; exact k)
        ·
          refine px_bipush dX5_operatorAt_47 bp_m8 ?_
          refine px_goto (tgt := 54) dX5_operatorAt_49 (by decide) ?_
          exact px_ireturn dX5_operatorAt_54 rfl rfl (by unfold hX5_operatorAt at k; rw [if_pos h1, if_neg h37, if_pos h38, if_pos h39] at k; exact k)
    ·
      refine px_aload_n dX5_operatorAt_15 rfl rfl ?_
      refine px_getR (v := 17) dX5_operatorAt_16 fr_5_12 rfl (px_sh1 hw sh_16) (px_rf hw rf_16_0) (by decide) ?_
      refine px_getI dX5_operatorAt_19 fr_5_59 rfl (px_sh1 hw sh_17) ?_
      refine px_bipush dX5_operatorAt_22 bp_12 ?_
      refine px_icmp_ne (tgt := 30) dX5_operatorAt_24 (by decide) (fun h40 => ?_) (fun h40 => ?_)
      ·
        refine px_iload_n dX5_operatorAt_30 rfl rfl ?_
        refine px_iconst dX5_operatorAt_31 ic_1 ?_
        refine px_icmp_ne (tgt := 52) dX5_operatorAt_32 (by decide) (fun h41 => ?_) (fun h41 => ?_)
        ·
          refine px_bipush dX5_operatorAt_52 bp_m100 ?_
          exact px_ireturn dX5_operatorAt_54 rfl rfl (by unfold hX5_operatorAt at k; rw [if_pos h1, if_pos h37, if_neg h40, if_neg h41] at k; exact k)
        ·
          refine px_aload_n dX5_operatorAt_35 rfl rfl ?_
          refine px_getR (v := 17) dX5_operatorAt_36 fr_5_12 rfl (px_sh1 hw sh_16) (px_rf hw rf_16_0) (by decide) ?_
          refine px_getI dX5_operatorAt_39 fr_5_59 rfl (px_sh1 hw sh_17) ?_
          refine px_bipush dX5_operatorAt_42 bp_13 ?_
          refine px_icmp_ne (tgt := 52) dX5_operatorAt_44 (by decide) (fun h42 => ?_) (fun h42 => ?_)
          ·
            refine px_bipush dX5_operatorAt_52 bp_m100 ?_
            exact px_ireturn dX5_operatorAt_54 rfl rfl (by unfold hX5_operatorAt at k; rw [if_pos h1, if_pos h37, if_neg h40, if_pos h41, if_neg h42] at k; exact k)
          ·
            refine px_bipush dX5_operatorAt_47 bp_m8 ?_
            refine px_goto (tgt := 54) dX5_operatorAt_49 (by decide) ?_
            exact px_ireturn dX5_operatorAt_54 rfl rfl (by unfold hX5_operatorAt at k; rw [if_pos h1, if_pos h37, if_neg h40, if_pos h41, if_pos h42] at k; exact k)
      ·
        refine px_bipush dX5_operatorAt_27 bp_m7 ?_
        exact px_ireturn dX5_operatorAt_29 rfl rfl (by unfold hX5_operatorAt at k; rw [if_pos h1, if_pos h37, if_pos h40] at k; exact k)
