section MAK
variable {E : px_E} {d : Nat} {Q : Option Value → pw_W → Prop}
theorem ci_1 (k : Q none (wk 15 12 1 zJ0)) : px_Call E (d + 2) 2 300 mX1_init [.ref 13] (wk 13 10 1 zJ0) Q := by
  refine px_enter (k := 0) (ls := [.ref 13]) (by decide) (Nat.le_of_ble_eq_true rfl) rfl ?_
  refine px_aload_n dX1_init_0 rfl rfl ?_
  refine px_objInit dX1_init_1 (px_in1 40 rfl rfl) (px_in1 27 rfl rfl) (px_in1 28 rfl rfl) (Nat.le_of_ble_eq_true rfl) ?_
  refine px_aload_n dX1_init_4 rfl rfl ?_
  refine px_sipush dX1_init_5 sp_270 ?_
  refine cx_newA (rc := 1) (rs := 30) (t := 100) (N := 270) dX1_init_8 (by decide) rfl (px_in1 57 rfl rfl) rfl (by decide) (by decide) (by decide +kernel) (by decide +kernel) (by decide +kernel) (fun z => absurd z (by decide)) ?_
  refine cx_putR dX1_init_10 fl_1_11 (Or.inr rfl) rfl (by decide +kernel) (by decide) (by omega) (by decide +kernel) ?_
  refine px_aload_n dX1_init_13 rfl rfl ?_
  refine px_bipush dX1_init_14 bp_30 ?_
  refine cx_newA (rc := 0) (rs := 0) (t := 100) (N := 30) dX1_init_16 (by decide) rfl (px_in1 57 rfl rfl) rfl (by decide) (by decide) (by decide +kernel) (by decide +kernel) (by decide +kernel) (fun z => absurd z (by decide)) ?_
  refine cx_putR dX1_init_18 fl_1_15 (Or.inr rfl) rfl (by decide +kernel) (by decide) (by omega) (by decide +kernel) ?_
  exact px_return dX1_init_21 rfl k
theorem ci_2 (k : Q none (wk 15 13 9 zJ0)) : px_Call E (d + 1) 0 0 mX1_clear [.ref 13] (wk 15 13 7 zJ0) Q := by
  refine px_enter (k := 0) (ls := [.ref 13]) (by decide) (Nat.le_of_ble_eq_true rfl) rfl ?_
  refine px_aload_n dX1_clear_0 rfl rfl ?_
  refine px_iconst dX1_clear_1 ic_0 ?_
  refine cx_putI dX1_clear_2 fl_1_18 (Or.inl rfl) rfl (by decide +kernel) (by decide) (by decide) (by omega) (by decide +kernel) ?_
  refine px_aload_n dX1_clear_5 rfl rfl ?_
  refine px_iconst dX1_clear_6 ic_0 ?_
  refine cx_putI dX1_clear_7 fl_1_22 (Or.inl rfl) rfl (by decide +kernel) (by decide) (by decide) (by omega) (by decide +kernel) ?_
  exact px_return dX1_clear_10 rfl k
theorem ci_3 (k : Q none (wk 15 13 11 zJ0)) : px_Call E (d + 1) 0 0 mX1_add [.ref 13, .int 9] (wk 15 13 9 zJ0) Q := by
  refine px_enter (k := 0) (ls := [.ref 13, .int 9]) (by decide) (Nat.le_of_ble_eq_true rfl) rfl ?_
  refine px_aload_n dX1_add_0 rfl rfl ?_
  refine cx_getI (v := 0) dX1_add_1 fr_1_18 rfl (by decide +kernel) (by decide +kernel) ?_
  refine px_sipush dX1_add_4 sp_270 ?_
  refine px_icmp_ge (tgt := 30) dX1_add_7 (by decide) (fun z => absurd z (by decide)) (fun _ => ?_)
  refine px_aload_n dX1_add_10 rfl rfl ?_
  refine cx_getR (v := 14) dX1_add_11 fr_1_11 rfl (by decide +kernel) (by decide +kernel) (by decide) ?_
  refine px_aload_n dX1_add_14 rfl rfl ?_
  refine cx_getI (v := 0) dX1_add_15 fr_1_18 rfl (by decide +kernel) (by decide +kernel) ?_
  refine px_iload_n dX1_add_18 rfl rfl ?_
  refine cx_iast (n := 270) (f := 0) dX1_add_19 (by decide +kernel) (by decide) rfl (by decide) (by omega) (by decide +kernel) ?_
  refine px_aload_n dX1_add_20 rfl rfl ?_
  refine px_dup dX1_add_21 rfl ?_
  refine cx_getI (v := 0) dX1_add_22 fr_1_18 rfl (by decide +kernel) (by decide +kernel) ?_
  refine px_iconst dX1_add_25 ic_1 ?_
  refine px_iadd dX1_add_26 ?_
  refine cx_putI dX1_add_27 fl_1_18 (Or.inl rfl) rfl (by decide +kernel) (by decide) (by decide) (by omega) (by decide +kernel) ?_
  exact px_return dX1_add_30 rfl k
theorem ci_4 (k : Q none (wk 15 13 13 zJ0)) : px_Call E (d + 1) 0 0 mX1_add [.ref 13, .int (-1)] (wk 15 13 11 zJ0) Q := by
  refine px_enter (k := 0) (ls := [.ref 13, .int (-1)]) (by decide) (Nat.le_of_ble_eq_true rfl) rfl ?_
  refine px_aload_n dX1_add_0 rfl rfl ?_
  refine cx_getI (v := 1) dX1_add_1 fr_1_18 rfl (by decide +kernel) (by decide +kernel) ?_
  refine px_sipush dX1_add_4 sp_270 ?_
  refine px_icmp_ge (tgt := 30) dX1_add_7 (by decide) (fun z => absurd z (by decide)) (fun _ => ?_)
  refine px_aload_n dX1_add_10 rfl rfl ?_
  refine cx_getR (v := 14) dX1_add_11 fr_1_11 rfl (by decide +kernel) (by decide +kernel) (by decide) ?_
  refine px_aload_n dX1_add_14 rfl rfl ?_
  refine cx_getI (v := 1) dX1_add_15 fr_1_18 rfl (by decide +kernel) (by decide +kernel) ?_
  refine px_iload_n dX1_add_18 rfl rfl ?_
  refine cx_iast (n := 270) (f := 1) dX1_add_19 (by decide +kernel) (by decide) rfl (by decide) (by omega) (by decide +kernel) ?_
  refine px_aload_n dX1_add_20 rfl rfl ?_
  refine px_dup dX1_add_21 rfl ?_
  refine cx_getI (v := 1) dX1_add_22 fr_1_18 rfl (by decide +kernel) (by decide +kernel) ?_
  refine px_iconst dX1_add_25 ic_1 ?_
  refine px_iadd dX1_add_26 ?_
  refine cx_putI dX1_add_27 fl_1_18 (Or.inl rfl) rfl (by decide +kernel) (by decide) (by decide) (by omega) (by decide +kernel) ?_
  exact px_return dX1_add_30 rfl k
theorem ci_5 (k : Q none (wk 15 13 15 zJ0)) : px_Call E (d + 1) 0 0 mX1_add [.ref 13, .int (-13)] (wk 15 13 13 zJ0) Q := by
  refine px_enter (k := 0) (ls := [.ref 13, .int (-13)]) (by decide) (Nat.le_of_ble_eq_true rfl) rfl ?_
  refine px_aload_n dX1_add_0 rfl rfl ?_
  refine cx_getI (v := 2) dX1_add_1 fr_1_18 rfl (by decide +kernel) (by decide +kernel) ?_
  refine px_sipush dX1_add_4 sp_270 ?_
  refine px_icmp_ge (tgt := 30) dX1_add_7 (by decide) (fun z => absurd z (by decide)) (fun _ => ?_)
  refine px_aload_n dX1_add_10 rfl rfl ?_
  refine cx_getR (v := 14) dX1_add_11 fr_1_11 rfl (by decide +kernel) (by decide +kernel) (by decide) ?_
  refine px_aload_n dX1_add_14 rfl rfl ?_
  refine cx_getI (v := 2) dX1_add_15 fr_1_18 rfl (by decide +kernel) (by decide +kernel) ?_
  refine px_iload_n dX1_add_18 rfl rfl ?_
  refine cx_iast (n := 270) (f := 2) dX1_add_19 (by decide +kernel) (by decide) rfl (by decide) (by omega) (by decide +kernel) ?_
  refine px_aload_n dX1_add_20 rfl rfl ?_
  refine px_dup dX1_add_21 rfl ?_
  refine cx_getI (v := 2) dX1_add_22 fr_1_18 rfl (by decide +kernel) (by decide +kernel) ?_
  refine px_iconst dX1_add_25 ic_1 ?_
  refine px_iadd dX1_add_26 ?_
  refine cx_putI dX1_add_27 fl_1_18 (Or.inl rfl) rfl (by decide +kernel) (by decide) (by decide) (by omega) (by decide +kernel) ?_
  exact px_return dX1_add_30 rfl k
theorem ci_6 (k : Q none (wk 15 13 15 zJ0)) : px_Call E (d + 2) 0 0 mX1_setUntold [.ref 13] (wk 15 13 7 zJ0) Q := by
  refine px_enter (k := 0) (ls := [.ref 13]) (by decide) (Nat.le_of_ble_eq_true rfl) rfl ?_
  refine px_aload_n dX1_setUntold_0 rfl rfl ?_
  refine px_callV (As := []) (st := []) (mc := 0) (ms := 0) (rc := 0) (rs := 0) dX1_setUntold_1 lk_1_25 (wk_sh1 (by decide +kernel)) rfl rfl (Nat.le_of_ble_eq_true rfl) (ci_2 ?_)
  refine px_aload_n dX1_setUntold_4 rfl rfl ?_
  refine px_bipush dX1_setUntold_5 bp_9 ?_
  refine px_callV (As := [.int 9]) (st := []) (mc := 0) (ms := 0) (rc := 0) (rs := 0) dX1_setUntold_7 lk_1_28 (wk_sh1 (by decide +kernel)) rfl rfl (Nat.le_of_ble_eq_true rfl) (ci_3 ?_)
  refine px_aload_n dX1_setUntold_10 rfl rfl ?_
  refine px_iconst dX1_setUntold_11 ic_m1 ?_
  refine px_callV (As := [.int (-1)]) (st := []) (mc := 0) (ms := 0) (rc := 0) (rs := 0) dX1_setUntold_12 lk_1_28 (wk_sh1 (by decide +kernel)) rfl rfl (Nat.le_of_ble_eq_true rfl) (ci_4 ?_)
  refine px_aload_n dX1_setUntold_15 rfl rfl ?_
  refine px_bipush dX1_setUntold_16 bp_m13 ?_
  refine px_callV (As := [.int (-13)]) (st := []) (mc := 0) (ms := 0) (rc := 0) (rs := 0) dX1_setUntold_18 lk_1_28 (wk_sh1 (by decide +kernel)) rfl rfl (Nat.le_of_ble_eq_true rfl) (ci_5 ?_)
  exact px_return dX1_setUntold_21 rfl k
theorem ci_7 (k : Q none (wk 15 13 15 zJ0)) : px_Call E (d + 3) 0 0 mX2_clear [.ref 3] (wk 15 13 1 zJ0) Q := by
  refine px_enter (k := 0) (ls := [.ref 3]) (by decide) (Nat.le_of_ble_eq_true rfl) rfl ?_
  refine px_aload_n dX2_clear_0 rfl rfl ?_
  refine px_iconst dX2_clear_1 ic_0 ?_
  refine cx_putI dX2_clear_2 fl_2_49 (Or.inl rfl) rfl (by decide +kernel) (by decide) (by decide) (by omega) (by decide +kernel) ?_
  refine px_aload_n dX2_clear_5 rfl rfl ?_
  refine px_iconst dX2_clear_6 ic_0 ?_
  refine cx_putI dX2_clear_7 fl_2_53 (Or.inl rfl) rfl (by decide +kernel) (by decide) (by decide) (by omega) (by decide +kernel) ?_
  refine px_aload_n dX2_clear_10 rfl rfl ?_
  refine px_iconst dX2_clear_11 ic_0 ?_
  refine cx_putI dX2_clear_12 fl_2_56 (Or.inl rfl) rfl (by decide +kernel) (by decide) (by decide) (by omega) (by decide +kernel) ?_
  refine px_aload_n dX2_clear_15 rfl rfl ?_
  refine px_bipush dX2_clear_16 bp_40 ?_
  refine cx_putI dX2_clear_18 fl_2_59 (Or.inl rfl) rfl (by decide +kernel) (by decide) (by decide) (by omega) (by decide +kernel) ?_
  refine px_aload_n dX2_clear_21 rfl rfl ?_
  refine px_iconst dX2_clear_22 ic_0 ?_
  refine cx_putI dX2_clear_23 fl_2_62 (Or.inl rfl) rfl (by decide +kernel) (by decide) (by decide) (by omega) (by decide +kernel) ?_
  refine px_aload_n dX2_clear_26 rfl rfl ?_
  refine px_iconst dX2_clear_27 ic_0 ?_
  refine cx_putI dX2_clear_28 fl_2_65 (Or.inl rfl) rfl (by decide +kernel) (by decide) (by decide) (by omega) (by decide +kernel) ?_
  refine px_aload_n dX2_clear_31 rfl rfl ?_
  refine cx_getR (v := 13) dX2_clear_32 fr_2_42 rfl (by decide +kernel) (by decide +kernel) (by decide) ?_
  refine px_callV (As := []) (st := []) (mc := 0) (ms := 0) (rc := 0) (rs := 0) dX2_clear_35 lk_2_68 (wk_sh1 (by decide +kernel)) rfl rfl (Nat.le_of_ble_eq_true rfl) (ci_6 ?_)
  exact px_return dX2_clear_38 rfl k
theorem ci_8 (k : Q none (wk 15 13 15 zJ0)) : px_Call E (d + 4) 12 365 mX2_init [.ref 3] (wk 3 1 1 zJ0) Q := by
  refine px_enter (k := 0) (ls := [.ref 3]) (by decide) (Nat.le_of_ble_eq_true rfl) rfl ?_
  refine px_aload_n dX2_init_0 rfl rfl ?_
  refine px_objInit dX2_init_1 (px_in1 34 rfl rfl) (px_in1 27 rfl rfl) (px_in1 28 rfl rfl) (Nat.le_of_ble_eq_true rfl) ?_
  refine px_aload_n dX2_init_4 rfl rfl ?_
  refine px_bipush dX2_init_5 bp_6 ?_
  refine cx_newA (rc := 11) (rs := 359) (t := 100) (N := 6) dX2_init_7 (by decide) rfl (px_in1 57 rfl rfl) rfl (by decide) (by decide) (by decide +kernel) (by decide +kernel) (by decide +kernel) (fun z => absurd z (by decide)) ?_
  refine cx_putR dX2_init_9 fl_2_9 (Or.inr rfl) rfl (by decide +kernel) (by decide) (by omega) (by decide +kernel) ?_
  refine px_aload_n dX2_init_12 rfl rfl ?_
  refine px_bipush dX2_init_13 bp_6 ?_
  refine cx_newA (rc := 10) (rs := 353) (t := 100) (N := 6) dX2_init_15 (by decide) rfl (px_in1 57 rfl rfl) rfl (by decide) (by decide) (by decide +kernel) (by decide +kernel) (by decide +kernel) (fun z => absurd z (by decide)) ?_
  refine cx_putR dX2_init_17 fl_2_15 (Or.inr rfl) rfl (by decide +kernel) (by decide) (by omega) (by decide +kernel) ?_
  refine px_aload_n dX2_init_20 rfl rfl ?_
  refine px_bipush dX2_init_21 bp_6 ?_
  refine cx_newA (rc := 9) (rs := 347) (t := 100) (N := 6) dX2_init_23 (by decide) rfl (px_in1 57 rfl rfl) rfl (by decide) (by decide) (by decide +kernel) (by decide +kernel) (by decide +kernel) (fun z => absurd z (by decide)) ?_
  refine cx_putR dX2_init_25 fl_2_18 (Or.inr rfl) rfl (by decide +kernel) (by decide) (by omega) (by decide +kernel) ?_
  refine px_aload_n dX2_init_28 rfl rfl ?_
  refine px_bipush dX2_init_29 bp_9 ?_
  refine cx_newA (rc := 8) (rs := 338) (t := 100) (N := 9) dX2_init_31 (by decide) rfl (px_in1 57 rfl rfl) rfl (by decide) (by decide) (by decide +kernel) (by decide +kernel) (by decide +kernel) (fun z => absurd z (by decide)) ?_
  refine cx_putR dX2_init_33 fl_2_21 (Or.inr rfl) rfl (by decide +kernel) (by decide) (by omega) (by decide +kernel) ?_
  refine px_aload_n dX2_init_36 rfl rfl ?_
  refine px_bipush dX2_init_37 bp_9 ?_
  refine cx_newA (rc := 7) (rs := 329) (t := 100) (N := 9) dX2_init_39 (by decide) rfl (px_in1 57 rfl rfl) rfl (by decide) (by decide) (by decide +kernel) (by decide +kernel) (by decide +kernel) (fun z => absurd z (by decide)) ?_
  refine cx_putR dX2_init_41 fl_2_24 (Or.inr rfl) rfl (by decide +kernel) (by decide) (by omega) (by decide +kernel) ?_
  refine px_aload_n dX2_init_44 rfl rfl ?_
  refine px_bipush dX2_init_45 bp_9 ?_
  refine cx_newA (rc := 6) (rs := 320) (t := 100) (N := 9) dX2_init_47 (by decide) rfl (px_in1 57 rfl rfl) rfl (by decide) (by decide) (by decide +kernel) (by decide +kernel) (by decide +kernel) (fun z => absurd z (by decide)) ?_
  refine cx_putR dX2_init_49 fl_2_27 (Or.inr rfl) rfl (by decide +kernel) (by decide) (by omega) (by decide +kernel) ?_
  refine px_aload_n dX2_init_52 rfl rfl ?_
  refine px_iconst dX2_init_53 ic_2 ?_
  refine cx_newA (rc := 5) (rs := 318) (t := 100) (N := 2) dX2_init_54 (by decide) rfl (px_in1 57 rfl rfl) rfl (by decide) (by decide) (by decide +kernel) (by decide +kernel) (by decide +kernel) (fun z => absurd z (by decide)) ?_
  refine cx_putR dX2_init_56 fl_2_30 (Or.inr rfl) rfl (by decide +kernel) (by decide) (by omega) (by decide +kernel) ?_
  refine px_aload_n dX2_init_59 rfl rfl ?_
  refine px_iconst dX2_init_60 ic_2 ?_
  refine cx_newA (rc := 4) (rs := 316) (t := 100) (N := 2) dX2_init_61 (by decide) rfl (px_in1 57 rfl rfl) rfl (by decide) (by decide) (by decide +kernel) (by decide +kernel) (by decide +kernel) (fun z => absurd z (by decide)) ?_
  refine cx_putR dX2_init_63 fl_2_33 (Or.inr rfl) rfl (by decide +kernel) (by decide) (by omega) (by decide +kernel) ?_
  refine px_aload_n dX2_init_66 rfl rfl ?_
  refine px_bipush dX2_init_67 bp_12 ?_
  refine cx_newA (rc := 3) (rs := 304) (t := 100) (N := 12) dX2_init_69 (by decide) rfl (px_in1 57 rfl rfl) rfl (by decide) (by decide) (by decide +kernel) (by decide +kernel) (by decide +kernel) (fun z => absurd z (by decide)) ?_
  refine cx_putR dX2_init_71 fl_2_36 (Or.inr rfl) rfl (by decide +kernel) (by decide) (by omega) (by decide +kernel) ?_
  refine px_aload_n dX2_init_74 rfl rfl ?_
  refine cx_new (rc := 2) (rs := 300) (N := 4) dX2_init_75 px_cf1 (px_in1 35 rfl rfl) (px_in1 36 rfl rfl) (px_in1 3 rfl rfl) (by decide) (by decide +kernel) (by decide +kernel) (by decide +kernel) (by decide +kernel) (fun z => absurd z (by decide)) ?_
  refine px_dup dX2_init_78 rfl ?_
  refine px_callN (As := []) (st := [.ref 13, .ref 3]) (mc := 2) (ms := 300) (rc := 0) (rs := 0) dX2_init_79 lk_2_41 rfl rfl (Nat.le_of_ble_eq_true rfl) (ci_1 ?_)
  refine cx_putR dX2_init_82 fl_2_42 (Or.inr rfl) rfl (by decide +kernel) (by decide) (by omega) (by decide +kernel) ?_
  refine px_aload_n dX2_init_85 rfl rfl ?_
  refine px_callV (As := []) (st := []) (mc := 0) (ms := 0) (rc := 0) (rs := 0) dX2_init_86 lk_2_46 (wk_sh1 (by decide +kernel)) rfl rfl (Nat.le_of_ble_eq_true rfl) (ci_7 ?_)
  exact px_return dX2_init_89 rfl k
theorem ci_9 (k : Q none (wk 19 16 17 zJ1)) : px_Call E (d + 7) 2 20 mX6_init [.ref 17] (wk 17 14 17 zJ0) Q := by
  refine px_enter (k := 3) (ls := [.ref 17, .null, .null, .null]) (by decide) (Nat.le_of_ble_eq_true rfl) rfl ?_
  refine px_aload_n dX6_init_0 rfl rfl ?_
  refine px_objInit dX6_init_1 (px_in1 179 rfl rfl) (px_in1 27 rfl rfl) (px_in1 28 rfl rfl) (Nat.le_of_ble_eq_true rfl) ?_
  refine px_aload_n dX6_init_4 rfl rfl ?_
  refine px_bipush dX6_init_5 bp_20 ?_
  refine cx_newA (rc := 1) (rs := 0) (t := 103) (N := 20) dX6_init_7 (by decide) rfl (px_in2 22 rfl rfl) rfl (by decide) (by decide) (by decide +kernel) (by decide +kernel) (by decide +kernel) (fun _ => rfl) ?_
  refine cx_putR dX6_init_9 fl_6_9 (Or.inr rfl) rfl (by decide +kernel) (by decide) (by omega) (by decide +kernel) ?_
  refine px_aload_n dX6_init_12 rfl rfl ?_
  refine px_iconst dX6_init_13 ic_0 ?_
  refine cx_newA (rc := 0) (rs := 0) (t := 101) (N := 0) dX6_init_14 (by decide) rfl (px_in1 56 rfl rfl) rfl (by decide) (by decide) (by decide +kernel) (by decide +kernel) (by decide +kernel) (fun z => absurd z (by decide)) ?_
  refine cx_putR dX6_init_16 fl_6_13 (Or.inr rfl) rfl (by decide +kernel) (by decide) (by omega) (by decide +kernel) ?_
  exact cx_scan k
theorem ci_10 (k : Q none (wk 34 30 17 zJ1)) : px_Call E (d + 2) 2 300 mX1_init [.ref 32] (wk 32 28 17 zJ1) Q := by
  refine px_enter (k := 0) (ls := [.ref 32]) (by decide) (Nat.le_of_ble_eq_true rfl) rfl ?_
  refine px_aload_n dX1_init_0 rfl rfl ?_
  refine px_objInit dX1_init_1 (px_in1 40 rfl rfl) (px_in1 27 rfl rfl) (px_in1 28 rfl rfl) (Nat.le_of_ble_eq_true rfl) ?_
  refine px_aload_n dX1_init_4 rfl rfl ?_
  refine px_sipush dX1_init_5 sp_270 ?_
  refine cx_newA (rc := 1) (rs := 30) (t := 100) (N := 270) dX1_init_8 (by decide) rfl (px_in1 57 rfl rfl) rfl (by decide) (by decide) (by decide +kernel) (by decide +kernel) (by decide +kernel) (fun z => absurd z (by decide)) ?_
  refine cx_putR dX1_init_10 fl_1_11 (Or.inr rfl) rfl (by decide +kernel) (by decide) (by omega) (by decide +kernel) ?_
  refine px_aload_n dX1_init_13 rfl rfl ?_
  refine px_bipush dX1_init_14 bp_30 ?_
  refine cx_newA (rc := 0) (rs := 0) (t := 100) (N := 30) dX1_init_16 (by decide) rfl (px_in1 57 rfl rfl) rfl (by decide) (by decide) (by decide +kernel) (by decide +kernel) (by decide +kernel) (fun z => absurd z (by decide)) ?_
  refine cx_putR dX1_init_18 fl_1_15 (Or.inr rfl) rfl (by decide +kernel) (by decide) (by omega) (by decide +kernel) ?_
  exact px_return dX1_init_21 rfl k
theorem ci_11 (k : Q none (wk 34 31 25 zJ1)) : px_Call E (d + 1) 0 0 mX1_clear [.ref 32] (wk 34 31 23 zJ1) Q := by
  refine px_enter (k := 0) (ls := [.ref 32]) (by decide) (Nat.le_of_ble_eq_true rfl) rfl ?_
  refine px_aload_n dX1_clear_0 rfl rfl ?_
  refine px_iconst dX1_clear_1 ic_0 ?_
  refine cx_putI dX1_clear_2 fl_1_18 (Or.inl rfl) rfl (by decide +kernel) (by decide) (by decide) (by omega) (by decide +kernel) ?_
  refine px_aload_n dX1_clear_5 rfl rfl ?_
  refine px_iconst dX1_clear_6 ic_0 ?_
  refine cx_putI dX1_clear_7 fl_1_22 (Or.inl rfl) rfl (by decide +kernel) (by decide) (by decide) (by omega) (by decide +kernel) ?_
  exact px_return dX1_clear_10 rfl k
theorem ci_12 (k : Q none (wk 34 31 27 zJ1)) : px_Call E (d + 1) 0 0 mX1_add [.ref 32, .int 9] (wk 34 31 25 zJ1) Q := by
  refine px_enter (k := 0) (ls := [.ref 32, .int 9]) (by decide) (Nat.le_of_ble_eq_true rfl) rfl ?_
  refine px_aload_n dX1_add_0 rfl rfl ?_
  refine cx_getI (v := 0) dX1_add_1 fr_1_18 rfl (by decide +kernel) (by decide +kernel) ?_
  refine px_sipush dX1_add_4 sp_270 ?_
  refine px_icmp_ge (tgt := 30) dX1_add_7 (by decide) (fun z => absurd z (by decide)) (fun _ => ?_)
  refine px_aload_n dX1_add_10 rfl rfl ?_
  refine cx_getR (v := 33) dX1_add_11 fr_1_11 rfl (by decide +kernel) (by decide +kernel) (by decide) ?_
  refine px_aload_n dX1_add_14 rfl rfl ?_
  refine cx_getI (v := 0) dX1_add_15 fr_1_18 rfl (by decide +kernel) (by decide +kernel) ?_
  refine px_iload_n dX1_add_18 rfl rfl ?_
  refine cx_iast (n := 270) (f := 0) dX1_add_19 (by decide +kernel) (by decide) rfl (by decide) (by omega) (by decide +kernel) ?_
  refine px_aload_n dX1_add_20 rfl rfl ?_
  refine px_dup dX1_add_21 rfl ?_
  refine cx_getI (v := 0) dX1_add_22 fr_1_18 rfl (by decide +kernel) (by decide +kernel) ?_
  refine px_iconst dX1_add_25 ic_1 ?_
  refine px_iadd dX1_add_26 ?_
  refine cx_putI dX1_add_27 fl_1_18 (Or.inl rfl) rfl (by decide +kernel) (by decide) (by decide) (by omega) (by decide +kernel) ?_
  exact px_return dX1_add_30 rfl k
theorem ci_13 (k : Q none (wk 34 31 29 zJ1)) : px_Call E (d + 1) 0 0 mX1_add [.ref 32, .int (-1)] (wk 34 31 27 zJ1) Q := by
  refine px_enter (k := 0) (ls := [.ref 32, .int (-1)]) (by decide) (Nat.le_of_ble_eq_true rfl) rfl ?_
  refine px_aload_n dX1_add_0 rfl rfl ?_
  refine cx_getI (v := 1) dX1_add_1 fr_1_18 rfl (by decide +kernel) (by decide +kernel) ?_
  refine px_sipush dX1_add_4 sp_270 ?_
  refine px_icmp_ge (tgt := 30) dX1_add_7 (by decide) (fun z => absurd z (by decide)) (fun _ => ?_)
  refine px_aload_n dX1_add_10 rfl rfl ?_
  refine cx_getR (v := 33) dX1_add_11 fr_1_11 rfl (by decide +kernel) (by decide +kernel) (by decide) ?_
  refine px_aload_n dX1_add_14 rfl rfl ?_
  refine cx_getI (v := 1) dX1_add_15 fr_1_18 rfl (by decide +kernel) (by decide +kernel) ?_
  refine px_iload_n dX1_add_18 rfl rfl ?_
  refine cx_iast (n := 270) (f := 1) dX1_add_19 (by decide +kernel) (by decide) rfl (by decide) (by omega) (by decide +kernel) ?_
  refine px_aload_n dX1_add_20 rfl rfl ?_
  refine px_dup dX1_add_21 rfl ?_
  refine cx_getI (v := 1) dX1_add_22 fr_1_18 rfl (by decide +kernel) (by decide +kernel) ?_
  refine px_iconst dX1_add_25 ic_1 ?_
  refine px_iadd dX1_add_26 ?_
  refine cx_putI dX1_add_27 fl_1_18 (Or.inl rfl) rfl (by decide +kernel) (by decide) (by decide) (by omega) (by decide +kernel) ?_
  exact px_return dX1_add_30 rfl k
theorem ci_14 (k : Q none (wk 34 31 31 zJ1)) : px_Call E (d + 1) 0 0 mX1_add [.ref 32, .int (-13)] (wk 34 31 29 zJ1) Q := by
  refine px_enter (k := 0) (ls := [.ref 32, .int (-13)]) (by decide) (Nat.le_of_ble_eq_true rfl) rfl ?_
  refine px_aload_n dX1_add_0 rfl rfl ?_
  refine cx_getI (v := 2) dX1_add_1 fr_1_18 rfl (by decide +kernel) (by decide +kernel) ?_
  refine px_sipush dX1_add_4 sp_270 ?_
  refine px_icmp_ge (tgt := 30) dX1_add_7 (by decide) (fun z => absurd z (by decide)) (fun _ => ?_)
  refine px_aload_n dX1_add_10 rfl rfl ?_
  refine cx_getR (v := 33) dX1_add_11 fr_1_11 rfl (by decide +kernel) (by decide +kernel) (by decide) ?_
  refine px_aload_n dX1_add_14 rfl rfl ?_
  refine cx_getI (v := 2) dX1_add_15 fr_1_18 rfl (by decide +kernel) (by decide +kernel) ?_
  refine px_iload_n dX1_add_18 rfl rfl ?_
  refine cx_iast (n := 270) (f := 2) dX1_add_19 (by decide +kernel) (by decide) rfl (by decide) (by omega) (by decide +kernel) ?_
  refine px_aload_n dX1_add_20 rfl rfl ?_
  refine px_dup dX1_add_21 rfl ?_
  refine cx_getI (v := 2) dX1_add_22 fr_1_18 rfl (by decide +kernel) (by decide +kernel) ?_
  refine px_iconst dX1_add_25 ic_1 ?_
  refine px_iadd dX1_add_26 ?_
  refine cx_putI dX1_add_27 fl_1_18 (Or.inl rfl) rfl (by decide +kernel) (by decide) (by decide) (by omega) (by decide +kernel) ?_
  exact px_return dX1_add_30 rfl k
theorem ci_15 (k : Q none (wk 34 31 31 zJ1)) : px_Call E (d + 2) 0 0 mX1_setUntold [.ref 32] (wk 34 31 23 zJ1) Q := by
  refine px_enter (k := 0) (ls := [.ref 32]) (by decide) (Nat.le_of_ble_eq_true rfl) rfl ?_
  refine px_aload_n dX1_setUntold_0 rfl rfl ?_
  refine px_callV (As := []) (st := []) (mc := 0) (ms := 0) (rc := 0) (rs := 0) dX1_setUntold_1 lk_1_25 (wk_sh1 (by decide +kernel)) rfl rfl (Nat.le_of_ble_eq_true rfl) (ci_11 ?_)
  refine px_aload_n dX1_setUntold_4 rfl rfl ?_
  refine px_bipush dX1_setUntold_5 bp_9 ?_
  refine px_callV (As := [.int 9]) (st := []) (mc := 0) (ms := 0) (rc := 0) (rs := 0) dX1_setUntold_7 lk_1_28 (wk_sh1 (by decide +kernel)) rfl rfl (Nat.le_of_ble_eq_true rfl) (ci_12 ?_)
  refine px_aload_n dX1_setUntold_10 rfl rfl ?_
  refine px_iconst dX1_setUntold_11 ic_m1 ?_
  refine px_callV (As := [.int (-1)]) (st := []) (mc := 0) (ms := 0) (rc := 0) (rs := 0) dX1_setUntold_12 lk_1_28 (wk_sh1 (by decide +kernel)) rfl rfl (Nat.le_of_ble_eq_true rfl) (ci_13 ?_)
  refine px_aload_n dX1_setUntold_15 rfl rfl ?_
  refine px_bipush dX1_setUntold_16 bp_m13 ?_
  refine px_callV (As := [.int (-13)]) (st := []) (mc := 0) (ms := 0) (rc := 0) (rs := 0) dX1_setUntold_18 lk_1_28 (wk_sh1 (by decide +kernel)) rfl rfl (Nat.le_of_ble_eq_true rfl) (ci_14 ?_)
  exact px_return dX1_setUntold_21 rfl k
theorem ci_16 (k : Q none (wk 34 31 31 zJ1)) : px_Call E (d + 3) 0 0 mX2_clear [.ref 22] (wk 34 31 17 zJ1) Q := by
  refine px_enter (k := 0) (ls := [.ref 22]) (by decide) (Nat.le_of_ble_eq_true rfl) rfl ?_
  refine px_aload_n dX2_clear_0 rfl rfl ?_
  refine px_iconst dX2_clear_1 ic_0 ?_
  refine cx_putI dX2_clear_2 fl_2_49 (Or.inl rfl) rfl (by decide +kernel) (by decide) (by decide) (by omega) (by decide +kernel) ?_
  refine px_aload_n dX2_clear_5 rfl rfl ?_
  refine px_iconst dX2_clear_6 ic_0 ?_
  refine cx_putI dX2_clear_7 fl_2_53 (Or.inl rfl) rfl (by decide +kernel) (by decide) (by decide) (by omega) (by decide +kernel) ?_
  refine px_aload_n dX2_clear_10 rfl rfl ?_
  refine px_iconst dX2_clear_11 ic_0 ?_
  refine cx_putI dX2_clear_12 fl_2_56 (Or.inl rfl) rfl (by decide +kernel) (by decide) (by decide) (by omega) (by decide +kernel) ?_
  refine px_aload_n dX2_clear_15 rfl rfl ?_
  refine px_bipush dX2_clear_16 bp_40 ?_
  refine cx_putI dX2_clear_18 fl_2_59 (Or.inl rfl) rfl (by decide +kernel) (by decide) (by decide) (by omega) (by decide +kernel) ?_
  refine px_aload_n dX2_clear_21 rfl rfl ?_
  refine px_iconst dX2_clear_22 ic_0 ?_
  refine cx_putI dX2_clear_23 fl_2_62 (Or.inl rfl) rfl (by decide +kernel) (by decide) (by decide) (by omega) (by decide +kernel) ?_
  refine px_aload_n dX2_clear_26 rfl rfl ?_
  refine px_iconst dX2_clear_27 ic_0 ?_
  refine cx_putI dX2_clear_28 fl_2_65 (Or.inl rfl) rfl (by decide +kernel) (by decide) (by decide) (by omega) (by decide +kernel) ?_
  refine px_aload_n dX2_clear_31 rfl rfl ?_
  refine cx_getR (v := 32) dX2_clear_32 fr_2_42 rfl (by decide +kernel) (by decide +kernel) (by decide) ?_
  refine px_callV (As := []) (st := []) (mc := 0) (ms := 0) (rc := 0) (rs := 0) dX2_clear_35 lk_2_68 (wk_sh1 (by decide +kernel)) rfl rfl (Nat.le_of_ble_eq_true rfl) (ci_15 ?_)
  exact px_return dX2_clear_38 rfl k
theorem ci_17 (k : Q none (wk 34 31 31 zJ1)) : px_Call E (d + 4) 12 365 mX2_init [.ref 22] (wk 22 19 17 zJ1) Q := by
  refine px_enter (k := 0) (ls := [.ref 22]) (by decide) (Nat.le_of_ble_eq_true rfl) rfl ?_
  refine px_aload_n dX2_init_0 rfl rfl ?_
  refine px_objInit dX2_init_1 (px_in1 34 rfl rfl) (px_in1 27 rfl rfl) (px_in1 28 rfl rfl) (Nat.le_of_ble_eq_true rfl) ?_
  refine px_aload_n dX2_init_4 rfl rfl ?_
  refine px_bipush dX2_init_5 bp_6 ?_
  refine cx_newA (rc := 11) (rs := 359) (t := 100) (N := 6) dX2_init_7 (by decide) rfl (px_in1 57 rfl rfl) rfl (by decide) (by decide) (by decide +kernel) (by decide +kernel) (by decide +kernel) (fun z => absurd z (by decide)) ?_
  refine cx_putR dX2_init_9 fl_2_9 (Or.inr rfl) rfl (by decide +kernel) (by decide) (by omega) (by decide +kernel) ?_
  refine px_aload_n dX2_init_12 rfl rfl ?_
  refine px_bipush dX2_init_13 bp_6 ?_
  refine cx_newA (rc := 10) (rs := 353) (t := 100) (N := 6) dX2_init_15 (by decide) rfl (px_in1 57 rfl rfl) rfl (by decide) (by decide) (by decide +kernel) (by decide +kernel) (by decide +kernel) (fun z => absurd z (by decide)) ?_
  refine cx_putR dX2_init_17 fl_2_15 (Or.inr rfl) rfl (by decide +kernel) (by decide) (by omega) (by decide +kernel) ?_
  refine px_aload_n dX2_init_20 rfl rfl ?_
  refine px_bipush dX2_init_21 bp_6 ?_
  refine cx_newA (rc := 9) (rs := 347) (t := 100) (N := 6) dX2_init_23 (by decide) rfl (px_in1 57 rfl rfl) rfl (by decide) (by decide) (by decide +kernel) (by decide +kernel) (by decide +kernel) (fun z => absurd z (by decide)) ?_
  refine cx_putR dX2_init_25 fl_2_18 (Or.inr rfl) rfl (by decide +kernel) (by decide) (by omega) (by decide +kernel) ?_
  refine px_aload_n dX2_init_28 rfl rfl ?_
  refine px_bipush dX2_init_29 bp_9 ?_
  refine cx_newA (rc := 8) (rs := 338) (t := 100) (N := 9) dX2_init_31 (by decide) rfl (px_in1 57 rfl rfl) rfl (by decide) (by decide) (by decide +kernel) (by decide +kernel) (by decide +kernel) (fun z => absurd z (by decide)) ?_
  refine cx_putR dX2_init_33 fl_2_21 (Or.inr rfl) rfl (by decide +kernel) (by decide) (by omega) (by decide +kernel) ?_
  refine px_aload_n dX2_init_36 rfl rfl ?_
  refine px_bipush dX2_init_37 bp_9 ?_
  refine cx_newA (rc := 7) (rs := 329) (t := 100) (N := 9) dX2_init_39 (by decide) rfl (px_in1 57 rfl rfl) rfl (by decide) (by decide) (by decide +kernel) (by decide +kernel) (by decide +kernel) (fun z => absurd z (by decide)) ?_
  refine cx_putR dX2_init_41 fl_2_24 (Or.inr rfl) rfl (by decide +kernel) (by decide) (by omega) (by decide +kernel) ?_
  refine px_aload_n dX2_init_44 rfl rfl ?_
  refine px_bipush dX2_init_45 bp_9 ?_
  refine cx_newA (rc := 6) (rs := 320) (t := 100) (N := 9) dX2_init_47 (by decide) rfl (px_in1 57 rfl rfl) rfl (by decide) (by decide) (by decide +kernel) (by decide +kernel) (by decide +kernel) (fun z => absurd z (by decide)) ?_
  refine cx_putR dX2_init_49 fl_2_27 (Or.inr rfl) rfl (by decide +kernel) (by decide) (by omega) (by decide +kernel) ?_
  refine px_aload_n dX2_init_52 rfl rfl ?_
  refine px_iconst dX2_init_53 ic_2 ?_
  refine cx_newA (rc := 5) (rs := 318) (t := 100) (N := 2) dX2_init_54 (by decide) rfl (px_in1 57 rfl rfl) rfl (by decide) (by decide) (by decide +kernel) (by decide +kernel) (by decide +kernel) (fun z => absurd z (by decide)) ?_
  refine cx_putR dX2_init_56 fl_2_30 (Or.inr rfl) rfl (by decide +kernel) (by decide) (by omega) (by decide +kernel) ?_
  refine px_aload_n dX2_init_59 rfl rfl ?_
  refine px_iconst dX2_init_60 ic_2 ?_
  refine cx_newA (rc := 4) (rs := 316) (t := 100) (N := 2) dX2_init_61 (by decide) rfl (px_in1 57 rfl rfl) rfl (by decide) (by decide) (by decide +kernel) (by decide +kernel) (by decide +kernel) (fun z => absurd z (by decide)) ?_
  refine cx_putR dX2_init_63 fl_2_33 (Or.inr rfl) rfl (by decide +kernel) (by decide) (by omega) (by decide +kernel) ?_
  refine px_aload_n dX2_init_66 rfl rfl ?_
  refine px_bipush dX2_init_67 bp_12 ?_
  refine cx_newA (rc := 3) (rs := 304) (t := 100) (N := 12) dX2_init_69 (by decide) rfl (px_in1 57 rfl rfl) rfl (by decide) (by decide) (by decide +kernel) (by decide +kernel) (by decide +kernel) (fun z => absurd z (by decide)) ?_
  refine cx_putR dX2_init_71 fl_2_36 (Or.inr rfl) rfl (by decide +kernel) (by decide) (by omega) (by decide +kernel) ?_
  refine px_aload_n dX2_init_74 rfl rfl ?_
  refine cx_new (rc := 2) (rs := 300) (N := 4) dX2_init_75 px_cf1 (px_in1 35 rfl rfl) (px_in1 36 rfl rfl) (px_in1 3 rfl rfl) (by decide) (by decide +kernel) (by decide +kernel) (by decide +kernel) (by decide +kernel) (fun z => absurd z (by decide)) ?_
  refine px_dup dX2_init_78 rfl ?_
  refine px_callN (As := []) (st := [.ref 32, .ref 22]) (mc := 2) (ms := 300) (rc := 0) (rs := 0) dX2_init_79 lk_2_41 rfl rfl (Nat.le_of_ble_eq_true rfl) (ci_10 ?_)
  refine cx_putR dX2_init_82 fl_2_42 (Or.inr rfl) rfl (by decide +kernel) (by decide) (by omega) (by decide +kernel) ?_
  refine px_aload_n dX2_init_85 rfl rfl ?_
  refine px_callV (As := []) (st := []) (mc := 0) (ms := 0) (rc := 0) (rs := 0) dX2_init_86 lk_2_46 (wk_sh1 (by decide +kernel)) rfl rfl (Nat.le_of_ble_eq_true rfl) (ci_16 ?_)
  exact px_return dX2_init_89 rfl k
theorem ci_18 (k : Q none (wk 34 32 31 zJ1)) : px_Call E (d + 8) 18 417 mX5_init [.ref 16] (wk 16 14 17 zJ0) Q := by
  refine px_enter (k := 0) (ls := [.ref 16]) (by decide) (Nat.le_of_ble_eq_true rfl) rfl ?_
  refine px_aload_n dX5_init_0 rfl rfl ?_
  refine px_objInit dX5_init_1 (px_in1 173 rfl rfl) (px_in1 27 rfl rfl) (px_in1 28 rfl rfl) (Nat.le_of_ble_eq_true rfl) ?_
  refine px_aload_n dX5_init_4 rfl rfl ?_
  refine cx_new (rc := 17) (rs := 409) (N := 8) dX5_init_5 px_cf6 (px_in1 174 rfl rfl) (px_in1 175 rfl rfl) (px_in1 5 rfl rfl) (by decide) (by decide +kernel) (by decide +kernel) (by decide +kernel) (by decide +kernel) (fun z => absurd z (by decide)) ?_
  refine px_dup dX5_init_8 rfl ?_
  refine px_callI (As := []) (st := [.ref 17, .ref 16]) (mc := 2) (ms := 20) (rc := 15) (rs := 389) dX5_init_9 lk_5_11 rfl rfl (Nat.le_of_ble_eq_true rfl) (ci_9 ?_)
  refine cx_putR dX5_init_12 fl_5_12 (Or.inr rfl) rfl (by decide +kernel) (by decide) (by omega) (by decide +kernel) ?_
  refine px_aload_n dX5_init_15 rfl rfl ?_
  refine px_bipush dX5_init_16 bp_6 ?_
  refine cx_newA (rc := 14) (rs := 383) (t := 103) (N := 6) dX5_init_18 (by decide) rfl (px_in2 22 rfl rfl) rfl (by decide) (by decide) (by decide +kernel) (by decide +kernel) (by decide +kernel) (fun z => absurd z (by decide)) ?_
  refine cx_putR dX5_init_20 fl_5_18 (Or.inr rfl) rfl (by decide +kernel) (by decide) (by omega) (by decide +kernel) ?_
  refine px_aload_n dX5_init_23 rfl rfl ?_
  refine px_iconst dX5_init_24 ic_2 ?_
  refine cx_newA (rc := 13) (rs := 381) (t := 103) (N := 2) dX5_init_25 (by decide) rfl (px_in2 22 rfl rfl) rfl (by decide) (by decide) (by decide +kernel) (by decide +kernel) (by decide +kernel) (fun z => absurd z (by decide)) ?_
  refine cx_putR dX5_init_27 fl_5_22 (Or.inr rfl) rfl (by decide +kernel) (by decide) (by omega) (by decide +kernel) ?_
  refine px_aload_n dX5_init_30 rfl rfl ?_
  refine cx_new (rc := 12) (rs := 365) (N := 16) dX5_init_31 px_cf2 (px_in2 23 rfl rfl) (px_in1 30 rfl rfl) (px_in1 2 rfl rfl) (by decide) (by decide +kernel) (by decide +kernel) (by decide +kernel) (by decide +kernel) (fun z => absurd z (by decide)) ?_
  refine px_dup dX5_init_34 rfl ?_
  refine px_callI (As := []) (st := [.ref 22, .ref 16]) (mc := 12) (ms := 365) (rc := 0) (rs := 0) dX5_init_35 lk_5_27 rfl rfl (Nat.le_of_ble_eq_true rfl) (ci_17 ?_)
  refine cx_putR dX5_init_38 fl_5_28 (Or.inr rfl) rfl (by decide +kernel) (by decide) (by omega) (by decide +kernel) ?_
  exact px_return dX5_init_41 rfl k
theorem ci_19 (k : Q none (wk 37 35 31 zJ1)) : px_Call E (d + 2) 2 12 mX8_init [.ref 35] (wk 35 33 31 zJ1) Q := by
  refine px_enter (k := 0) (ls := [.ref 35]) (by decide) (Nat.le_of_ble_eq_true rfl) rfl ?_
  refine px_aload_n dX8_init_0 rfl rfl ?_
  refine px_objInit dX8_init_1 (px_in2 54 rfl rfl) (px_in1 27 rfl rfl) (px_in1 28 rfl rfl) (Nat.le_of_ble_eq_true rfl) ?_
  refine px_aload_n dX8_init_4 rfl rfl ?_
  refine px_bipush dX8_init_5 bp_6 ?_
  refine cx_newA (rc := 1) (rs := 6) (t := 100) (N := 6) dX8_init_7 (by decide) rfl (px_in1 57 rfl rfl) rfl (by decide) (by decide) (by decide +kernel) (by decide +kernel) (by decide +kernel) (fun z => absurd z (by decide)) ?_
  refine cx_putR dX8_init_9 fl_8_9 (Or.inr rfl) rfl (by decide +kernel) (by decide) (by omega) (by decide +kernel) ?_
  refine px_aload_n dX8_init_12 rfl rfl ?_
  refine px_bipush dX8_init_13 bp_6 ?_
  refine cx_newA (rc := 0) (rs := 0) (t := 100) (N := 6) dX8_init_15 (by decide) rfl (px_in1 57 rfl rfl) rfl (by decide) (by decide) (by decide +kernel) (by decide +kernel) (by decide +kernel) (fun z => absurd z (by decide)) ?_
  refine cx_putR dX8_init_17 fl_8_15 (Or.inr rfl) rfl (by decide +kernel) (by decide) (by omega) (by decide +kernel) ?_
  exact px_return dX8_init_20 rfl k
theorem ci_20 (k : Q none (wk 39 37 31 zJ1)) : px_Call E (d + 2) 1 615 mX3_init [.ref 38] (wk 38 36 31 zJ1) Q := by
  refine px_enter (k := 0) (ls := [.ref 38]) (by decide) (Nat.le_of_ble_eq_true rfl) rfl ?_
  refine px_aload_n dX3_init_0 rfl rfl ?_
  refine px_objInit dX3_init_1 (px_in2 91 rfl rfl) (px_in1 27 rfl rfl) (px_in1 28 rfl rfl) (Nat.le_of_ble_eq_true rfl) ?_
  refine px_aload_n dX3_init_4 rfl rfl ?_
  refine px_sipush dX3_init_5 sp_615 ?_
  refine cx_newA (rc := 0) (rs := 0) (t := 100) (N := 615) dX3_init_8 (by decide) rfl (px_in1 57 rfl rfl) rfl (by decide) (by decide) (by decide +kernel) (by decide +kernel) (by decide +kernel) (fun z => absurd z (by decide)) ?_
  refine cx_putR dX3_init_10 fl_3_11 (Or.inr rfl) rfl (by decide +kernel) (by decide) (by omega) (by decide +kernel) ?_
  exact px_return dX3_init_13 rfl k
theorem ci_21 (k : Q none (wk 44 41 32 zJ1)) : px_Call E (d + 2) 2 12 mX8_init [.ref 42] (wk 42 39 32 zJ1) Q := by
  refine px_enter (k := 0) (ls := [.ref 42]) (by decide) (Nat.le_of_ble_eq_true rfl) rfl ?_
  refine px_aload_n dX8_init_0 rfl rfl ?_
  refine px_objInit dX8_init_1 (px_in2 54 rfl rfl) (px_in1 27 rfl rfl) (px_in1 28 rfl rfl) (Nat.le_of_ble_eq_true rfl) ?_
  refine px_aload_n dX8_init_4 rfl rfl ?_
  refine px_bipush dX8_init_5 bp_6 ?_
  refine cx_newA (rc := 1) (rs := 6) (t := 100) (N := 6) dX8_init_7 (by decide) rfl (px_in1 57 rfl rfl) rfl (by decide) (by decide) (by decide +kernel) (by decide +kernel) (by decide +kernel) (fun z => absurd z (by decide)) ?_
  refine cx_putR dX8_init_9 fl_8_9 (Or.inr rfl) rfl (by decide +kernel) (by decide) (by omega) (by decide +kernel) ?_
  refine px_aload_n dX8_init_12 rfl rfl ?_
  refine px_bipush dX8_init_13 bp_6 ?_
  refine cx_newA (rc := 0) (rs := 0) (t := 100) (N := 6) dX8_init_15 (by decide) rfl (px_in1 57 rfl rfl) rfl (by decide) (by decide) (by decide +kernel) (by decide +kernel) (by decide +kernel) (fun z => absurd z (by decide)) ?_
  refine cx_putR dX8_init_17 fl_8_15 (Or.inr rfl) rfl (by decide +kernel) (by decide) (by omega) (by decide +kernel) ?_
  exact px_return dX8_init_20 rfl k
theorem ci_22 (k : Q none (wk 45 43 32 zJ1)) : px_Call E (d + 3) 4 29 mX4_init [.ref 41] (wk 41 39 32 zJ1) Q := by
  refine px_enter (k := 0) (ls := [.ref 41]) (by decide) (Nat.le_of_ble_eq_true rfl) rfl ?_
  refine px_aload_n dX4_init_0 rfl rfl ?_
  refine px_objInit dX4_init_1 (px_in2 107 rfl rfl) (px_in1 27 rfl rfl) (px_in1 28 rfl rfl) (Nat.le_of_ble_eq_true rfl) ?_
  refine px_aload_n dX4_init_4 rfl rfl ?_
  refine cx_new (rc := 3) (rs := 24) (N := 5) dX4_init_5 px_cf8 (px_in2 108 rfl rfl) (px_in2 50 rfl rfl) (px_in1 10 rfl rfl) (by decide) (by decide +kernel) (by decide +kernel) (by decide +kernel) (by decide +kernel) (fun z => absurd z (by decide)) ?_
  refine px_dup dX4_init_8 rfl ?_
  refine px_callN (As := []) (st := [.ref 42, .ref 41]) (mc := 2) (ms := 12) (rc := 1) (rs := 12) dX4_init_9 lk_4_11 rfl rfl (Nat.le_of_ble_eq_true rfl) (ci_21 ?_)
  refine cx_putR dX4_init_12 fl_4_12 (Or.inr rfl) rfl (by decide +kernel) (by decide) (by omega) (by decide +kernel) ?_
  refine px_aload_n dX4_init_15 rfl rfl ?_
  refine px_bipush dX4_init_16 bp_12 ?_
  refine cx_newA (rc := 0) (rs := 0) (t := 100) (N := 12) dX4_init_18 (by decide) rfl (px_in1 57 rfl rfl) rfl (by decide) (by decide) (by decide +kernel) (by decide +kernel) (by decide +kernel) (fun z => absurd z (by decide)) ?_
  refine cx_putR dX4_init_20 fl_4_18 (Or.inr rfl) rfl (by decide +kernel) (by decide) (by omega) (by decide +kernel) ?_
  exact px_return dX4_init_23 rfl k
theorem ci_23 (k : Q none (wk 47 45 32 zJ1)) : px_Call E (d + 2) 1 6 mX0_init [.ref 46] (wk 46 44 32 zJ1) Q := by
  refine px_enter (k := 0) (ls := [.ref 46]) (by decide) (Nat.le_of_ble_eq_true rfl) rfl ?_
  refine px_aload_n dX0_init_0 rfl rfl ?_
  refine px_objInit dX0_init_1 (px_in2 130 rfl rfl) (px_in1 27 rfl rfl) (px_in1 28 rfl rfl) (Nat.le_of_ble_eq_true rfl) ?_
  refine px_aload_n dX0_init_4 rfl rfl ?_
  refine px_bipush dX0_init_5 bp_6 ?_
  refine cx_newA (rc := 0) (rs := 0) (t := 100) (N := 6) dX0_init_7 (by decide) rfl (px_in1 57 rfl rfl) rfl (by decide) (by decide) (by decide +kernel) (by decide +kernel) (by decide +kernel) (fun z => absurd z (by decide)) ?_
  refine cx_putR dX0_init_9 fl_0_9 (Or.inr rfl) rfl (by decide +kernel) (by decide) (by omega) (by decide +kernel) ?_
  exact px_return dX0_init_12 rfl k
theorem ci_24 (k : Q none (wk 59 56 32 zJ1)) : px_Call E (d + 2) 2 12 mX8_init [.ref 57] (wk 57 54 32 zJ1) Q := by
  refine px_enter (k := 0) (ls := [.ref 57]) (by decide) (Nat.le_of_ble_eq_true rfl) rfl ?_
  refine px_aload_n dX8_init_0 rfl rfl ?_
  refine px_objInit dX8_init_1 (px_in2 54 rfl rfl) (px_in1 27 rfl rfl) (px_in1 28 rfl rfl) (Nat.le_of_ble_eq_true rfl) ?_
  refine px_aload_n dX8_init_4 rfl rfl ?_
  refine px_bipush dX8_init_5 bp_6 ?_
  refine cx_newA (rc := 1) (rs := 6) (t := 100) (N := 6) dX8_init_7 (by decide) rfl (px_in1 57 rfl rfl) rfl (by decide) (by decide) (by decide +kernel) (by decide +kernel) (by decide +kernel) (fun z => absurd z (by decide)) ?_
  refine cx_putR dX8_init_9 fl_8_9 (Or.inr rfl) rfl (by decide +kernel) (by decide) (by omega) (by decide +kernel) ?_
  refine px_aload_n dX8_init_12 rfl rfl ?_
  refine px_bipush dX8_init_13 bp_6 ?_
  refine cx_newA (rc := 0) (rs := 0) (t := 100) (N := 6) dX8_init_15 (by decide) rfl (px_in1 57 rfl rfl) rfl (by decide) (by decide) (by decide +kernel) (by decide +kernel) (by decide +kernel) (fun z => absurd z (by decide)) ?_
  refine cx_putR dX8_init_17 fl_8_15 (Or.inr rfl) rfl (by decide +kernel) (by decide) (by omega) (by decide +kernel) ?_
  exact px_return dX8_init_20 rfl k
theorem ci_25 (k : Q none (wk 59 57 32 zJ1)) : px_Call E (d + 3) 11 3087 mX7_init [.ref 48] (wk 48 46 32 zJ1) Q := by
  refine px_enter (k := 0) (ls := [.ref 48]) (by decide) (Nat.le_of_ble_eq_true rfl) rfl ?_
  refine px_aload_n dX7_init_0 rfl rfl ?_
  refine px_objInit dX7_init_1 (px_in2 140 rfl rfl) (px_in1 27 rfl rfl) (px_in1 28 rfl rfl) (Nat.le_of_ble_eq_true rfl) ?_
  refine px_aload_n dX7_init_4 rfl rfl ?_
  refine px_bipush dX7_init_5 bp_30 ?_
  refine cx_newA (rc := 10) (rs := 3057) (t := 100) (N := 30) dX7_init_7 (by decide) rfl (px_in1 57 rfl rfl) rfl (by decide) (by decide) (by decide +kernel) (by decide +kernel) (by decide +kernel) (fun z => absurd z (by decide)) ?_
  refine cx_putR dX7_init_9 fl_7_11 (Or.inr rfl) rfl (by decide +kernel) (by decide) (by omega) (by decide +kernel) ?_
  refine px_aload_n dX7_init_12 rfl rfl ?_
  refine px_bipush dX7_init_13 bp_30 ?_
  refine cx_newA (rc := 9) (rs := 3027) (t := 100) (N := 30) dX7_init_15 (by decide) rfl (px_in1 57 rfl rfl) rfl (by decide) (by decide) (by decide +kernel) (by decide +kernel) (by decide +kernel) (fun z => absurd z (by decide)) ?_
  refine cx_putR dX7_init_17 fl_7_15 (Or.inr rfl) rfl (by decide +kernel) (by decide) (by omega) (by decide +kernel) ?_
  refine px_aload_n dX7_init_20 rfl rfl ?_
  refine px_bipush dX7_init_21 bp_30 ?_
  refine cx_newA (rc := 8) (rs := 2997) (t := 100) (N := 30) dX7_init_23 (by decide) rfl (px_in1 57 rfl rfl) rfl (by decide) (by decide) (by decide +kernel) (by decide +kernel) (by decide +kernel) (fun z => absurd z (by decide)) ?_
  refine cx_putR dX7_init_25 fl_7_18 (Or.inr rfl) rfl (by decide +kernel) (by decide) (by omega) (by decide +kernel) ?_
  refine px_aload_n dX7_init_28 rfl rfl ?_
  refine px_bipush dX7_init_29 bp_30 ?_
  refine cx_newA (rc := 7) (rs := 2967) (t := 102) (N := 30) dX7_init_31 (by decide) rfl (px_in2 182 rfl rfl) rfl (by decide) (by decide) (by decide +kernel) (by decide +kernel) (by decide +kernel) (fun z => absurd z (by decide)) ?_
  refine cx_putR dX7_init_33 fl_7_21 (Or.inr rfl) rfl (by decide +kernel) (by decide) (by omega) (by decide +kernel) ?_
  refine px_aload_n dX7_init_36 rfl rfl ?_
  refine px_bipush dX7_init_37 bp_30 ?_
  refine cx_newA (rc := 6) (rs := 2937) (t := 100) (N := 30) dX7_init_39 (by decide) rfl (px_in1 57 rfl rfl) rfl (by decide) (by decide) (by decide +kernel) (by decide +kernel) (by decide +kernel) (fun z => absurd z (by decide)) ?_
  refine cx_putR dX7_init_41 fl_7_25 (Or.inr rfl) rfl (by decide +kernel) (by decide) (by omega) (by decide +kernel) ?_
  refine px_aload_n dX7_init_44 rfl rfl ?_
  refine px_bipush dX7_init_45 bp_30 ?_
  refine cx_newA (rc := 5) (rs := 2907) (t := 100) (N := 30) dX7_init_47 (by decide) rfl (px_in1 57 rfl rfl) rfl (by decide) (by decide) (by decide +kernel) (by decide +kernel) (by decide +kernel) (fun z => absurd z (by decide)) ?_
  refine cx_putR dX7_init_49 fl_7_28 (Or.inr rfl) rfl (by decide +kernel) (by decide) (by omega) (by decide +kernel) ?_
  refine px_aload_n dX7_init_52 rfl rfl ?_
  refine px_sipush dX7_init_53 sp_2790 ?_
  refine cx_newA (rc := 4) (rs := 117) (t := 101) (N := 2790) dX7_init_56 (by decide) rfl (px_in1 56 rfl rfl) rfl (by decide) (by decide) (by decide +kernel) (by decide +kernel) (by decide +kernel) (fun z => absurd z (by decide)) ?_
  refine cx_putR dX7_init_58 fl_7_31 (Or.inr rfl) rfl (by decide +kernel) (by decide) (by omega) (by decide +kernel) ?_
  refine px_aload_n dX7_init_61 rfl rfl ?_
  refine px_bipush dX7_init_62 bp_100 ?_
  refine cx_newA (rc := 3) (rs := 17) (t := 100) (N := 100) dX7_init_64 (by decide) rfl (px_in1 57 rfl rfl) rfl (by decide) (by decide) (by decide +kernel) (by decide +kernel) (by decide +kernel) (fun z => absurd z (by decide)) ?_
  refine cx_putR dX7_init_66 fl_7_35 (Or.inr rfl) rfl (by decide +kernel) (by decide) (by omega) (by decide +kernel) ?_
  refine px_aload_n dX7_init_69 rfl rfl ?_
  refine cx_new (rc := 2) (rs := 12) (N := 5) dX7_init_70 px_cf8 (px_in2 141 rfl rfl) (px_in2 50 rfl rfl) (px_in1 10 rfl rfl) (by decide) (by decide +kernel) (by decide +kernel) (by decide +kernel) (by decide +kernel) (fun z => absurd z (by decide)) ?_
  refine px_dup dX7_init_73 rfl ?_
  refine px_callN (As := []) (st := [.ref 57, .ref 48]) (mc := 2) (ms := 12) (rc := 0) (rs := 0) dX7_init_74 lk_7_40 rfl rfl (Nat.le_of_ble_eq_true rfl) (ci_24 ?_)
  refine cx_putR dX7_init_77 fl_7_41 (Or.inr rfl) rfl (by decide +kernel) (by decide) (by omega) (by decide +kernel) ?_
  exact px_return dX7_init_80 rfl k
theorem ci_26 (k : Q none (wk 60 59 33 zJ1)) : px_Call E (d + 9) 59 6230 mX9_init [.ref 1] (wk 1 0 0 zJ0) Q := by
  refine px_enter (k := 0) (ls := [.ref 1]) (by decide) (Nat.le_of_ble_eq_true rfl) rfl ?_
  refine px_aload_n dX9_init_0 rfl rfl ?_
  refine px_objInit dX9_init_1 (px_in1 26 rfl rfl) (px_in1 27 rfl rfl) (px_in1 28 rfl rfl) (Nat.le_of_ble_eq_true rfl) ?_
  refine px_aload_n dX9_init_4 rfl rfl ?_
  refine px_sipush dX9_init_5 sp_1600 ?_
  refine cx_newA (rc := 58) (rs := 4630) (t := 101) (N := 1600) dX9_init_8 (by decide) rfl (px_in1 56 rfl rfl) rfl (by decide) (by decide) (by decide +kernel) (by decide +kernel) (by decide +kernel) (fun z => absurd z (by decide)) ?_
  refine cx_putR dX9_init_10 fl_9_9 (Or.inr rfl) rfl (by decide +kernel) (by decide) (by omega) (by decide +kernel) ?_
  refine px_aload_n dX9_init_13 rfl rfl ?_
  refine px_iconst dX9_init_14 ic_0 ?_
  refine cx_putI dX9_init_15 fl_9_13 (Or.inr rfl) rfl (by decide +kernel) (by decide) (by decide) (by omega) (by decide +kernel) ?_
  refine px_aload_n dX9_init_18 rfl rfl ?_
  refine cx_new (rc := 57) (rs := 4614) (N := 16) dX9_init_19 px_cf2 (px_in1 29 rfl rfl) (px_in1 30 rfl rfl) (px_in1 2 rfl rfl) (by decide) (by decide +kernel) (by decide +kernel) (by decide +kernel) (by decide +kernel) (fun z => absurd z (by decide)) ?_
  refine px_dup dX9_init_22 rfl ?_
  refine px_callI (As := []) (st := [.ref 3, .ref 1]) (mc := 12) (ms := 365) (rc := 45) (rs := 4249) dX9_init_23 lk_9_19 rfl rfl (Nat.le_of_ble_eq_true rfl) (ci_8 ?_)
  refine cx_putR dX9_init_26 fl_9_20 (Or.inr rfl) rfl (by decide +kernel) (by decide) (by omega) (by decide +kernel) ?_
  refine px_aload_n dX9_init_29 rfl rfl ?_
  refine px_iconst dX9_init_30 ic_0 ?_
  refine cx_putI dX9_init_31 fl_9_24 (Or.inr rfl) rfl (by decide +kernel) (by decide) (by decide) (by omega) (by decide +kernel) ?_
  refine px_aload_n dX9_init_34 rfl rfl ?_
  refine px_iconst dX9_init_35 ic_m1 ?_
  refine cx_putI dX9_init_36 fl_9_27 (Or.inr rfl) rfl (by decide +kernel) (by decide) (by decide) (by omega) (by decide +kernel) ?_
  refine px_aload_n dX9_init_39 rfl rfl ?_
  refine cx_new (rc := 44) (rs := 4242) (N := 7) dX9_init_40 px_cf5 (px_in1 168 rfl rfl) (px_in1 169 rfl rfl) (px_in1 4 rfl rfl) (by decide) (by decide +kernel) (by decide +kernel) (by decide +kernel) (by decide +kernel) (fun z => absurd z (by decide)) ?_
  refine px_dup dX9_init_43 rfl ?_
  refine px_callN (As := []) (st := [.ref 16, .ref 1]) (mc := 18) (ms := 417) (rc := 26) (rs := 3825) dX9_init_44 lk_9_32 rfl rfl (Nat.le_of_ble_eq_true rfl) (ci_18 ?_)
  refine cx_putR dX9_init_47 fl_9_33 (Or.inr rfl) rfl (by decide +kernel) (by decide) (by omega) (by decide +kernel) ?_
  refine px_aload_n dX9_init_50 rfl rfl ?_
  refine cx_new (rc := 25) (rs := 3820) (N := 5) dX9_init_51 px_cf8 (px_in2 49 rfl rfl) (px_in2 50 rfl rfl) (px_in1 10 rfl rfl) (by decide) (by decide +kernel) (by decide +kernel) (by decide +kernel) (by decide +kernel) (fun z => absurd z (by decide)) ?_
  refine px_dup dX9_init_54 rfl ?_
  refine px_callN (As := []) (st := [.ref 35, .ref 1]) (mc := 2) (ms := 12) (rc := 23) (rs := 3808) dX9_init_55 lk_9_39 rfl rfl (Nat.le_of_ble_eq_true rfl) (ci_19 ?_)
  refine cx_putR dX9_init_58 fl_9_40 (Or.inr rfl) rfl (by decide +kernel) (by decide) (by omega) (by decide +kernel) ?_
  refine px_aload_n dX9_init_61 rfl rfl ?_
  refine cx_new (rc := 22) (rs := 3805) (N := 3) dX9_init_62 px_cf3 (px_in2 86 rfl rfl) (px_in2 87 rfl rfl) (px_in1 11 rfl rfl) (by decide) (by decide +kernel) (by decide +kernel) (by decide +kernel) (by decide +kernel) (fun z => absurd z (by decide)) ?_
  refine px_dup dX9_init_65 rfl ?_
  refine px_callN (As := []) (st := [.ref 38, .ref 1]) (mc := 1) (ms := 615) (rc := 21) (rs := 3190) dX9_init_66 lk_9_46 rfl rfl (Nat.le_of_ble_eq_true rfl) (ci_20 ?_)
  refine cx_putR dX9_init_69 fl_9_47 (Or.inr rfl) rfl (by decide +kernel) (by decide) (by omega) (by decide +kernel) ?_
  refine px_aload_n dX9_init_72 rfl rfl ?_
  refine px_bipush dX9_init_73 bp_45 ?_
  refine cx_newA (rc := 20) (rs := 3145) (t := 100) (N := 45) dX9_init_75 (by decide) rfl (px_in1 57 rfl rfl) rfl (by decide) (by decide) (by decide +kernel) (by decide +kernel) (by decide +kernel) (fun z => absurd z (by decide)) ?_
  refine cx_putR dX9_init_77 fl_9_51 (Or.inr rfl) rfl (by decide +kernel) (by decide) (by omega) (by decide +kernel) ?_
  refine px_aload_n dX9_init_80 rfl rfl ?_
  refine px_iconst dX9_init_81 ic_0 ?_
  refine cx_putI dX9_init_82 fl_9_55 (Or.inr rfl) rfl (by decide +kernel) (by decide) (by decide) (by omega) (by decide +kernel) ?_
  refine px_aload_n dX9_init_85 rfl rfl ?_
  refine cx_new (rc := 19) (rs := 3141) (N := 4) dX9_init_86 px_cf4 (px_in2 102 rfl rfl) (px_in2 103 rfl rfl) (px_in1 12 rfl rfl) (by decide) (by decide +kernel) (by decide +kernel) (by decide +kernel) (by decide +kernel) (fun z => absurd z (by decide)) ?_
  refine px_dup dX9_init_89 rfl ?_
  refine px_callN (As := []) (st := [.ref 41, .ref 1]) (mc := 4) (ms := 29) (rc := 15) (rs := 3112) dX9_init_90 lk_9_60 rfl rfl (Nat.le_of_ble_eq_true rfl) (ci_22 ?_)
  refine cx_putR dX9_init_93 fl_9_61 (Or.inr rfl) rfl (by decide +kernel) (by decide) (by omega) (by decide +kernel) ?_
  refine px_aload_n dX9_init_96 rfl rfl ?_
  refine cx_new (rc := 14) (rs := 3111) (N := 1) dX9_init_97 px_cf0 (px_in2 125 rfl rfl) (px_in2 126 rfl rfl) (px_in1 13 rfl rfl) (by decide) (by decide +kernel) (by decide +kernel) (by decide +kernel) (by decide +kernel) (fun z => absurd z (by decide)) ?_
  refine px_dup dX9_init_100 rfl ?_
  refine px_callN (As := []) (st := [.ref 46, .ref 1]) (mc := 1) (ms := 6) (rc := 13) (rs := 3105) dX9_init_101 lk_9_67 rfl rfl (Nat.le_of_ble_eq_true rfl) (ci_23 ?_)
  refine cx_putR dX9_init_104 fl_9_68 (Or.inr rfl) rfl (by decide +kernel) (by decide) (by omega) (by decide +kernel) ?_
  refine px_aload_n dX9_init_107 rfl rfl ?_
  refine cx_new (rc := 12) (rs := 3093) (N := 12) dX9_init_108 px_cf7 (px_in2 135 rfl rfl) (px_in2 136 rfl rfl) (px_in1 14 rfl rfl) (by decide) (by decide +kernel) (by decide +kernel) (by decide +kernel) (by decide +kernel) (fun z => absurd z (by decide)) ?_
  refine px_dup dX9_init_111 rfl ?_
  refine px_callN (As := []) (st := [.ref 48, .ref 1]) (mc := 11) (ms := 3087) (rc := 1) (rs := 6) dX9_init_112 lk_9_74 rfl rfl (Nat.le_of_ble_eq_true rfl) (ci_25 ?_)
  refine cx_putR dX9_init_115 fl_9_75 (Or.inr rfl) rfl (by decide +kernel) (by decide) (by omega) (by decide +kernel) ?_
  refine px_aload_n dX9_init_118 rfl rfl ?_
  refine px_bipush dX9_init_119 bp_6 ?_
  refine cx_newA (rc := 0) (rs := 0) (t := 100) (N := 6) dX9_init_121 (by decide) rfl (px_in1 57 rfl rfl) rfl (by decide) (by decide) (by decide +kernel) (by decide +kernel) (by decide +kernel) (fun z => absurd z (by decide)) ?_
  refine cx_putR dX9_init_123 fl_9_79 (Or.inr rfl) rfl (by decide +kernel) (by decide) (by omega) (by decide +kernel) ?_
  refine px_aload_n dX9_init_126 rfl rfl ?_
  refine px_iconst dX9_init_127 ic_0 ?_
  refine cx_putI dX9_init_128 fl_9_82 (Or.inr rfl) rfl (by decide +kernel) (by decide) (by decide) (by omega) (by decide +kernel) ?_
  exact px_return dX9_init_131 rfl k
theorem ci_27 (k : Q none (wk 107 105 35 zJ1)) : px_Call E (d + 2) 46 7044 mX10_init [.ref 61] (wk 61 59 33 zJ1) Q := by
  refine px_enter (k := 0) (ls := [.ref 61]) (by decide) (Nat.le_of_ble_eq_true rfl) rfl ?_
  refine px_aload_n dX10_init_0 rfl rfl ?_
  refine px_objInit dX10_init_1 (px_in5 211 rfl rfl) (px_in1 27 rfl rfl) (px_in1 28 rfl rfl) (Nat.le_of_ble_eq_true rfl) ?_
  refine px_aload_n dX10_init_4 rfl rfl ?_
  refine px_sipush dX10_init_5 sp_1600 ?_
  refine cx_newA (rc := 45) (rs := 5444) (t := 100) (N := 1600) dX10_init_8 (by decide) rfl (px_in1 57 rfl rfl) rfl (by decide) (by decide) (by decide +kernel) (by decide +kernel) (by decide +kernel) (fun z => absurd z (by decide)) ?_
  refine cx_putR dX10_init_10 fl_10_7 (Or.inr rfl) rfl (by decide +kernel) (by decide) (by omega) (by decide +kernel) ?_
  refine px_aload_n dX10_init_13 rfl rfl ?_
  refine px_iconst dX10_init_14 ic_m1 ?_
  refine cx_putI dX10_init_15 fl_10_13 (Or.inr rfl) rfl (by decide +kernel) (by decide) (by decide) (by omega) (by decide +kernel) ?_
  refine px_aload_n dX10_init_18 rfl rfl ?_
  refine px_bipush dX10_init_19 bp_8 ?_
  refine cx_newA (rc := 44) (rs := 5436) (t := 103) (N := 8) dX10_init_21 (by decide) rfl (px_in2 22 rfl rfl) rfl (by decide) (by decide) (by decide +kernel) (by decide +kernel) (by decide +kernel) (fun z => absurd z (by decide)) ?_
  refine cx_putR dX10_init_23 fl_10_17 (Or.inr rfl) rfl (by decide +kernel) (by decide) (by omega) (by decide +kernel) ?_
  refine px_aload_n dX10_init_26 rfl rfl ?_
  refine px_sipush dX10_init_27 sp_320 ?_
  refine cx_newA (rc := 43) (rs := 5116) (t := 100) (N := 320) dX10_init_30 (by decide) rfl (px_in1 57 rfl rfl) rfl (by decide) (by decide) (by decide +kernel) (by decide +kernel) (by decide +kernel) (fun z => absurd z (by decide)) ?_
  refine cx_putR dX10_init_32 fl_10_21 (Or.inr rfl) rfl (by decide +kernel) (by decide) (by omega) (by decide +kernel) ?_
  refine px_aload_n dX10_init_35 rfl rfl ?_
  refine px_sipush dX10_init_36 sp_320 ?_
  refine cx_newA (rc := 42) (rs := 4796) (t := 100) (N := 320) dX10_init_39 (by decide) rfl (px_in1 57 rfl rfl) rfl (by decide) (by decide) (by decide +kernel) (by decide +kernel) (by decide +kernel) (fun z => absurd z (by decide)) ?_
  refine cx_putR dX10_init_41 fl_10_24 (Or.inr rfl) rfl (by decide +kernel) (by decide) (by omega) (by decide +kernel) ?_
  refine px_aload_n dX10_init_44 rfl rfl ?_
  refine px_sipush dX10_init_45 sp_320 ?_
  refine cx_newA (rc := 41) (rs := 4476) (t := 100) (N := 320) dX10_init_48 (by decide) rfl (px_in1 57 rfl rfl) rfl (by decide) (by decide) (by decide +kernel) (by decide +kernel) (by decide +kernel) (fun z => absurd z (by decide)) ?_
  refine cx_putR dX10_init_50 fl_10_27 (Or.inr rfl) rfl (by decide +kernel) (by decide) (by omega) (by decide +kernel) ?_
  refine px_aload_n dX10_init_53 rfl rfl ?_
  refine px_sipush dX10_init_54 sp_320 ?_
  refine cx_newA (rc := 40) (rs := 4156) (t := 100) (N := 320) dX10_init_57 (by decide) rfl (px_in1 57 rfl rfl) rfl (by decide) (by decide) (by decide +kernel) (by decide +kernel) (by decide +kernel) (fun z => absurd z (by decide)) ?_
  refine cx_putR dX10_init_59 fl_10_30 (Or.inr rfl) rfl (by decide +kernel) (by decide) (by omega) (by decide +kernel) ?_
  refine px_aload_n dX10_init_62 rfl rfl ?_
  refine px_sipush dX10_init_63 sp_160 ?_
  refine cx_newA (rc := 39) (rs := 3996) (t := 100) (N := 160) dX10_init_66 (by decide) rfl (px_in1 57 rfl rfl) rfl (by decide) (by decide) (by decide +kernel) (by decide +kernel) (by decide +kernel) (fun z => absurd z (by decide)) ?_
  refine cx_putR dX10_init_68 fl_10_33 (Or.inr rfl) rfl (by decide +kernel) (by decide) (by omega) (by decide +kernel) ?_
  refine px_aload_n dX10_init_71 rfl rfl ?_
  refine px_bipush dX10_init_72 bp_64 ?_
  refine cx_newA (rc := 38) (rs := 3932) (t := 100) (N := 64) dX10_init_74 (by decide) rfl (px_in1 57 rfl rfl) rfl (by decide) (by decide) (by decide +kernel) (by decide +kernel) (by decide +kernel) (fun z => absurd z (by decide)) ?_
  refine cx_putR dX10_init_76 fl_10_36 (Or.inr rfl) rfl (by decide +kernel) (by decide) (by omega) (by decide +kernel) ?_
  refine px_aload_n dX10_init_79 rfl rfl ?_
  refine px_iconst dX10_init_80 ic_5 ?_
  refine cx_newA (rc := 37) (rs := 3927) (t := 100) (N := 5) dX10_init_81 (by decide) rfl (px_in1 57 rfl rfl) rfl (by decide) (by decide) (by decide +kernel) (by decide +kernel) (by decide +kernel) (fun z => absurd z (by decide)) ?_
  refine cx_putR dX10_init_83 fl_10_39 (Or.inr rfl) rfl (by decide +kernel) (by decide) (by omega) (by decide +kernel) ?_
  refine px_aload_n dX10_init_86 rfl rfl ?_
  refine px_bipush dX10_init_87 bp_6 ?_
  refine cx_newA (rc := 36) (rs := 3921) (t := 100) (N := 6) dX10_init_89 (by decide) rfl (px_in1 57 rfl rfl) rfl (by decide) (by decide) (by decide +kernel) (by decide +kernel) (by decide +kernel) (fun z => absurd z (by decide)) ?_
  refine cx_putR dX10_init_91 fl_10_42 (Or.inr rfl) rfl (by decide +kernel) (by decide) (by omega) (by decide +kernel) ?_
  refine px_aload_n dX10_init_94 rfl rfl ?_
  refine px_bipush dX10_init_95 bp_6 ?_
  refine cx_newA (rc := 35) (rs := 3915) (t := 100) (N := 6) dX10_init_97 (by decide) rfl (px_in1 57 rfl rfl) rfl (by decide) (by decide) (by decide +kernel) (by decide +kernel) (by decide +kernel) (fun z => absurd z (by decide)) ?_
  refine cx_putR dX10_init_99 fl_10_45 (Or.inr rfl) rfl (by decide +kernel) (by decide) (by omega) (by decide +kernel) ?_
  refine px_aload_n dX10_init_102 rfl rfl ?_
  refine px_bipush dX10_init_103 bp_6 ?_
  refine cx_newA (rc := 34) (rs := 3909) (t := 100) (N := 6) dX10_init_105 (by decide) rfl (px_in1 57 rfl rfl) rfl (by decide) (by decide) (by decide +kernel) (by decide +kernel) (by decide +kernel) (fun z => absurd z (by decide)) ?_
  refine cx_putR dX10_init_107 fl_10_48 (Or.inr rfl) rfl (by decide +kernel) (by decide) (by omega) (by decide +kernel) ?_
  refine px_aload_n dX10_init_110 rfl rfl ?_
  refine px_bipush dX10_init_111 bp_9 ?_
  refine cx_newA (rc := 33) (rs := 3900) (t := 100) (N := 9) dX10_init_113 (by decide) rfl (px_in1 57 rfl rfl) rfl (by decide) (by decide) (by decide +kernel) (by decide +kernel) (by decide +kernel) (fun z => absurd z (by decide)) ?_
  refine cx_putR dX10_init_115 fl_10_51 (Or.inr rfl) rfl (by decide +kernel) (by decide) (by omega) (by decide +kernel) ?_
  refine px_aload_n dX10_init_118 rfl rfl ?_
  refine px_bipush dX10_init_119 bp_9 ?_
  refine cx_newA (rc := 32) (rs := 3891) (t := 100) (N := 9) dX10_init_121 (by decide) rfl (px_in1 57 rfl rfl) rfl (by decide) (by decide) (by decide +kernel) (by decide +kernel) (by decide +kernel) (fun z => absurd z (by decide)) ?_
  refine cx_putR dX10_init_123 fl_10_54 (Or.inr rfl) rfl (by decide +kernel) (by decide) (by omega) (by decide +kernel) ?_
  refine px_aload_n dX10_init_126 rfl rfl ?_
  refine px_bipush dX10_init_127 bp_9 ?_
  refine cx_newA (rc := 31) (rs := 3882) (t := 100) (N := 9) dX10_init_129 (by decide) rfl (px_in1 57 rfl rfl) rfl (by decide) (by decide) (by decide +kernel) (by decide +kernel) (by decide +kernel) (fun z => absurd z (by decide)) ?_
  refine cx_putR dX10_init_131 fl_10_57 (Or.inr rfl) rfl (by decide +kernel) (by decide) (by omega) (by decide +kernel) ?_
  refine px_aload_n dX10_init_134 rfl rfl ?_
  refine px_iconst dX10_init_135 ic_2 ?_
  refine cx_newA (rc := 30) (rs := 3880) (t := 100) (N := 2) dX10_init_136 (by decide) rfl (px_in1 57 rfl rfl) rfl (by decide) (by decide) (by decide +kernel) (by decide +kernel) (by decide +kernel) (fun z => absurd z (by decide)) ?_
  refine cx_putR dX10_init_138 fl_10_60 (Or.inr rfl) rfl (by decide +kernel) (by decide) (by omega) (by decide +kernel) ?_
  refine px_aload_n dX10_init_141 rfl rfl ?_
  refine px_bipush dX10_init_142 bp_12 ?_
  refine cx_newA (rc := 29) (rs := 3868) (t := 100) (N := 12) dX10_init_144 (by decide) rfl (px_in1 57 rfl rfl) rfl (by decide) (by decide) (by decide +kernel) (by decide +kernel) (by decide +kernel) (fun z => absurd z (by decide)) ?_
  refine cx_putR dX10_init_146 fl_10_63 (Or.inr rfl) rfl (by decide +kernel) (by decide) (by omega) (by decide +kernel) ?_
  refine px_aload_n dX10_init_149 rfl rfl ?_
  refine px_iconst dX10_init_150 ic_2 ?_
  refine cx_newA (rc := 28) (rs := 3866) (t := 100) (N := 2) dX10_init_151 (by decide) rfl (px_in1 57 rfl rfl) rfl (by decide) (by decide) (by decide +kernel) (by decide +kernel) (by decide +kernel) (fun z => absurd z (by decide)) ?_
  refine cx_putR dX10_init_153 fl_10_66 (Or.inr rfl) rfl (by decide +kernel) (by decide) (by omega) (by decide +kernel) ?_
  refine px_aload_n dX10_init_156 rfl rfl ?_
  refine px_bipush dX10_init_157 bp_6 ?_
  refine cx_newA (rc := 27) (rs := 3860) (t := 100) (N := 6) dX10_init_159 (by decide) rfl (px_in1 57 rfl rfl) rfl (by decide) (by decide) (by decide +kernel) (by decide +kernel) (by decide +kernel) (fun z => absurd z (by decide)) ?_
  refine cx_putR dX10_init_161 fl_10_69 (Or.inr rfl) rfl (by decide +kernel) (by decide) (by omega) (by decide +kernel) ?_
  refine px_aload_n dX10_init_164 rfl rfl ?_
  refine px_bipush dX10_init_165 bp_6 ?_
  refine cx_newA (rc := 26) (rs := 3854) (t := 100) (N := 6) dX10_init_167 (by decide) rfl (px_in1 57 rfl rfl) rfl (by decide) (by decide) (by decide +kernel) (by decide +kernel) (by decide +kernel) (fun z => absurd z (by decide)) ?_
  refine cx_putR dX10_init_169 fl_10_72 (Or.inr rfl) rfl (by decide +kernel) (by decide) (by omega) (by decide +kernel) ?_
  refine px_aload_n dX10_init_172 rfl rfl ?_
  refine px_bipush dX10_init_173 bp_6 ?_
  refine cx_newA (rc := 25) (rs := 3848) (t := 100) (N := 6) dX10_init_175 (by decide) rfl (px_in1 57 rfl rfl) rfl (by decide) (by decide) (by decide +kernel) (by decide +kernel) (by decide +kernel) (fun z => absurd z (by decide)) ?_
  refine cx_putR dX10_init_177 fl_10_75 (Or.inr rfl) rfl (by decide +kernel) (by decide) (by omega) (by decide +kernel) ?_
  refine px_aload_n dX10_init_180 rfl rfl ?_
  refine px_bipush dX10_init_181 bp_9 ?_
  refine cx_newA (rc := 24) (rs := 3839) (t := 100) (N := 9) dX10_init_183 (by decide) rfl (px_in1 57 rfl rfl) rfl (by decide) (by decide) (by decide +kernel) (by decide +kernel) (by decide +kernel) (fun z => absurd z (by decide)) ?_
  refine cx_putR dX10_init_185 fl_10_78 (Or.inr rfl) rfl (by decide +kernel) (by decide) (by omega) (by decide +kernel) ?_
  refine px_aload_n dX10_init_188 rfl rfl ?_
  refine px_bipush dX10_init_189 bp_9 ?_
  refine cx_newA (rc := 23) (rs := 3830) (t := 100) (N := 9) dX10_init_191 (by decide) rfl (px_in1 57 rfl rfl) rfl (by decide) (by decide) (by decide +kernel) (by decide +kernel) (by decide +kernel) (fun z => absurd z (by decide)) ?_
  refine cx_putR dX10_init_193 fl_10_81 (Or.inr rfl) rfl (by decide +kernel) (by decide) (by omega) (by decide +kernel) ?_
  refine px_aload_n dX10_init_196 rfl rfl ?_
  refine px_bipush dX10_init_197 bp_9 ?_
  refine cx_newA (rc := 22) (rs := 3821) (t := 100) (N := 9) dX10_init_199 (by decide) rfl (px_in1 57 rfl rfl) rfl (by decide) (by decide) (by decide +kernel) (by decide +kernel) (by decide +kernel) (fun z => absurd z (by decide)) ?_
  refine cx_putR dX10_init_201 fl_10_84 (Or.inr rfl) rfl (by decide +kernel) (by decide) (by omega) (by decide +kernel) ?_
  refine px_aload_n dX10_init_204 rfl rfl ?_
  refine px_iconst dX10_init_205 ic_2 ?_
  refine cx_newA (rc := 21) (rs := 3819) (t := 100) (N := 2) dX10_init_206 (by decide) rfl (px_in1 57 rfl rfl) rfl (by decide) (by decide) (by decide +kernel) (by decide +kernel) (by decide +kernel) (fun z => absurd z (by decide)) ?_
  refine cx_putR dX10_init_208 fl_10_87 (Or.inr rfl) rfl (by decide +kernel) (by decide) (by omega) (by decide +kernel) ?_
  refine px_aload_n dX10_init_211 rfl rfl ?_
  refine px_bipush dX10_init_212 bp_12 ?_
  refine cx_newA (rc := 20) (rs := 3807) (t := 100) (N := 12) dX10_init_214 (by decide) rfl (px_in1 57 rfl rfl) rfl (by decide) (by decide) (by decide +kernel) (by decide +kernel) (by decide +kernel) (fun z => absurd z (by decide)) ?_
  refine cx_putR dX10_init_216 fl_10_90 (Or.inr rfl) rfl (by decide +kernel) (by decide) (by omega) (by decide +kernel) ?_
  refine px_aload_n dX10_init_219 rfl rfl ?_
  refine px_iconst dX10_init_220 ic_2 ?_
  refine cx_newA (rc := 19) (rs := 3805) (t := 100) (N := 2) dX10_init_221 (by decide) rfl (px_in1 57 rfl rfl) rfl (by decide) (by decide) (by decide +kernel) (by decide +kernel) (by decide +kernel) (fun z => absurd z (by decide)) ?_
  refine cx_putR dX10_init_223 fl_10_93 (Or.inr rfl) rfl (by decide +kernel) (by decide) (by omega) (by decide +kernel) ?_
  refine px_aload_n dX10_init_226 rfl rfl ?_
  refine px_bipush dX10_init_227 bp_40 ?_
  refine cx_putI dX10_init_229 fl_10_96 (Or.inr rfl) rfl (by decide +kernel) (by decide) (by decide) (by omega) (by decide +kernel) ?_
  refine px_aload_n dX10_init_232 rfl rfl ?_
  refine px_bipush dX10_init_233 bp_15 ?_
  refine cx_newA (rc := 18) (rs := 3790) (t := 100) (N := 15) dX10_init_235 (by decide) rfl (px_in1 57 rfl rfl) rfl (by decide) (by decide) (by decide +kernel) (by decide +kernel) (by decide +kernel) (fun z => absurd z (by decide)) ?_
  refine cx_putR dX10_init_237 fl_10_99 (Or.inr rfl) rfl (by decide +kernel) (by decide) (by omega) (by decide +kernel) ?_
  refine px_aload_n dX10_init_240 rfl rfl ?_
  refine px_bipush dX10_init_241 bp_15 ?_
  refine cx_newA (rc := 17) (rs := 3775) (t := 100) (N := 15) dX10_init_243 (by decide) rfl (px_in1 57 rfl rfl) rfl (by decide) (by decide) (by decide +kernel) (by decide +kernel) (by decide +kernel) (fun z => absurd z (by decide)) ?_
  refine cx_putR dX10_init_245 fl_10_102 (Or.inr rfl) rfl (by decide +kernel) (by decide) (by omega) (by decide +kernel) ?_
  refine px_aload_n dX10_init_248 rfl rfl ?_
  refine px_sipush dX10_init_249 sp_600 ?_
  refine cx_newA (rc := 16) (rs := 3175) (t := 100) (N := 600) dX10_init_252 (by decide) rfl (px_in1 57 rfl rfl) rfl (by decide) (by decide) (by decide +kernel) (by decide +kernel) (by decide +kernel) (fun z => absurd z (by decide)) ?_
  refine cx_putR dX10_init_254 fl_10_105 (Or.inr rfl) rfl (by decide +kernel) (by decide) (by omega) (by decide +kernel) ?_
  refine px_aload_n dX10_init_257 rfl rfl ?_
  refine px_bipush dX10_init_258 bp_6 ?_
  refine cx_newA (rc := 15) (rs := 3169) (t := 100) (N := 6) dX10_init_260 (by decide) rfl (px_in1 57 rfl rfl) rfl (by decide) (by decide) (by decide +kernel) (by decide +kernel) (by decide +kernel) (fun z => absurd z (by decide)) ?_
  refine cx_putR dX10_init_262 fl_10_108 (Or.inr rfl) rfl (by decide +kernel) (by decide) (by omega) (by decide +kernel) ?_
  refine px_aload_n dX10_init_265 rfl rfl ?_
  refine px_bipush dX10_init_266 bp_6 ?_
  refine cx_newA (rc := 14) (rs := 3163) (t := 100) (N := 6) dX10_init_268 (by decide) rfl (px_in1 57 rfl rfl) rfl (by decide) (by decide) (by decide +kernel) (by decide +kernel) (by decide +kernel) (fun z => absurd z (by decide)) ?_
  refine cx_putR dX10_init_270 fl_10_111 (Or.inr rfl) rfl (by decide +kernel) (by decide) (by omega) (by decide +kernel) ?_
  refine px_aload_n dX10_init_273 rfl rfl ?_
  refine px_bipush dX10_init_274 bp_6 ?_
  refine cx_newA (rc := 13) (rs := 3157) (t := 100) (N := 6) dX10_init_276 (by decide) rfl (px_in1 57 rfl rfl) rfl (by decide) (by decide) (by decide +kernel) (by decide +kernel) (by decide +kernel) (fun z => absurd z (by decide)) ?_
  refine cx_putR dX10_init_278 fl_10_114 (Or.inr rfl) rfl (by decide +kernel) (by decide) (by omega) (by decide +kernel) ?_
  refine px_aload_n dX10_init_281 rfl rfl ?_
  refine px_iconst dX10_init_282 ic_4 ?_
  refine cx_newA (rc := 12) (rs := 3153) (t := 100) (N := 4) dX10_init_283 (by decide) rfl (px_in1 57 rfl rfl) rfl (by decide) (by decide) (by decide +kernel) (by decide +kernel) (by decide +kernel) (fun z => absurd z (by decide)) ?_
  refine cx_putR dX10_init_285 fl_10_117 (Or.inr rfl) rfl (by decide +kernel) (by decide) (by omega) (by decide +kernel) ?_
  refine px_aload_n dX10_init_288 rfl rfl ?_
  refine px_iconst dX10_init_289 ic_4 ?_
  refine cx_newA (rc := 11) (rs := 3149) (t := 100) (N := 4) dX10_init_290 (by decide) rfl (px_in1 57 rfl rfl) rfl (by decide) (by decide) (by decide +kernel) (by decide +kernel) (by decide +kernel) (fun z => absurd z (by decide)) ?_
  refine cx_putR dX10_init_292 fl_10_120 (Or.inr rfl) rfl (by decide +kernel) (by decide) (by omega) (by decide +kernel) ?_
  refine px_aload_n dX10_init_295 rfl rfl ?_
  refine px_bipush dX10_init_296 bp_30 ?_
  refine cx_newA (rc := 10) (rs := 3119) (t := 100) (N := 30) dX10_init_298 (by decide) rfl (px_in1 57 rfl rfl) rfl (by decide) (by decide) (by decide +kernel) (by decide +kernel) (by decide +kernel) (fun z => absurd z (by decide)) ?_
  refine cx_putR dX10_init_300 fl_10_123 (Or.inr rfl) rfl (by decide +kernel) (by decide) (by omega) (by decide +kernel) ?_
  refine px_aload_n dX10_init_303 rfl rfl ?_
  refine px_bipush dX10_init_304 bp_30 ?_
  refine cx_newA (rc := 9) (rs := 3089) (t := 100) (N := 30) dX10_init_306 (by decide) rfl (px_in1 57 rfl rfl) rfl (by decide) (by decide) (by decide +kernel) (by decide +kernel) (by decide +kernel) (fun z => absurd z (by decide)) ?_
  refine cx_putR dX10_init_308 fl_10_126 (Or.inr rfl) rfl (by decide +kernel) (by decide) (by omega) (by decide +kernel) ?_
  refine px_aload_n dX10_init_311 rfl rfl ?_
  refine px_bipush dX10_init_312 bp_30 ?_
  refine cx_newA (rc := 8) (rs := 3059) (t := 100) (N := 30) dX10_init_314 (by decide) rfl (px_in1 57 rfl rfl) rfl (by decide) (by decide) (by decide +kernel) (by decide +kernel) (by decide +kernel) (fun z => absurd z (by decide)) ?_
  refine cx_putR dX10_init_316 fl_10_129 (Or.inr rfl) rfl (by decide +kernel) (by decide) (by omega) (by decide +kernel) ?_
  refine px_aload_n dX10_init_319 rfl rfl ?_
  refine px_bipush dX10_init_320 bp_30 ?_
  refine cx_newA (rc := 7) (rs := 3029) (t := 100) (N := 30) dX10_init_322 (by decide) rfl (px_in1 57 rfl rfl) rfl (by decide) (by decide) (by decide +kernel) (by decide +kernel) (by decide +kernel) (fun z => absurd z (by decide)) ?_
  refine cx_putR dX10_init_324 fl_10_132 (Or.inr rfl) rfl (by decide +kernel) (by decide) (by omega) (by decide +kernel) ?_
  refine px_aload_n dX10_init_327 rfl rfl ?_
  refine px_bipush dX10_init_328 bp_30 ?_
  refine cx_newA (rc := 6) (rs := 2999) (t := 100) (N := 30) dX10_init_330 (by decide) rfl (px_in1 57 rfl rfl) rfl (by decide) (by decide) (by decide +kernel) (by decide +kernel) (by decide +kernel) (fun z => absurd z (by decide)) ?_
  refine cx_putR dX10_init_332 fl_10_135 (Or.inr rfl) rfl (by decide +kernel) (by decide) (by omega) (by decide +kernel) ?_
  refine px_aload_n dX10_init_335 rfl rfl ?_
  refine px_bipush dX10_init_336 bp_30 ?_
  refine cx_newA (rc := 5) (rs := 2969) (t := 102) (N := 30) dX10_init_338 (by decide) rfl (px_in2 182 rfl rfl) rfl (by decide) (by decide) (by decide +kernel) (by decide +kernel) (by decide +kernel) (fun z => absurd z (by decide)) ?_
  refine cx_putR dX10_init_340 fl_10_138 (Or.inr rfl) rfl (by decide +kernel) (by decide) (by omega) (by decide +kernel) ?_
  refine px_aload_n dX10_init_343 rfl rfl ?_
  refine px_sipush dX10_init_344 sp_2790 ?_
  refine cx_newA (rc := 4) (rs := 179) (t := 100) (N := 2790) dX10_init_347 (by decide) rfl (px_in1 57 rfl rfl) rfl (by decide) (by decide) (by decide +kernel) (by decide +kernel) (by decide +kernel) (fun z => absurd z (by decide)) ?_
  refine cx_putR dX10_init_349 fl_10_142 (Or.inr rfl) rfl (by decide +kernel) (by decide) (by omega) (by decide +kernel) ?_
  refine px_aload_n dX10_init_352 rfl rfl ?_
  refine px_bipush dX10_init_353 bp_100 ?_
  refine cx_newA (rc := 3) (rs := 79) (t := 100) (N := 100) dX10_init_355 (by decide) rfl (px_in1 57 rfl rfl) rfl (by decide) (by decide) (by decide +kernel) (by decide +kernel) (by decide +kernel) (fun z => absurd z (by decide)) ?_
  refine cx_putR dX10_init_357 fl_10_145 (Or.inr rfl) rfl (by decide +kernel) (by decide) (by omega) (by decide +kernel) ?_
  refine px_aload_n dX10_init_360 rfl rfl ?_
  refine px_bipush dX10_init_361 bp_31 ?_
  refine cx_newA (rc := 2) (rs := 48) (t := 102) (N := 31) dX10_init_363 (by decide) rfl (px_in2 182 rfl rfl) rfl (by decide) (by decide) (by decide +kernel) (by decide +kernel) (by decide +kernel) (fun z => absurd z (by decide)) ?_
  refine cx_putR dX10_init_365 fl_10_148 (Or.inr rfl) rfl (by decide +kernel) (by decide) (by omega) (by decide +kernel) ?_
  refine px_aload_n dX10_init_368 rfl rfl ?_
  refine px_iconst dX10_init_369 ic_3 ?_
  refine cx_newA (rc := 1) (rs := 45) (t := 102) (N := 3) dX10_init_370 (by decide) rfl (px_in2 182 rfl rfl) rfl (by decide) (by decide) (by decide +kernel) (by decide +kernel) (by decide +kernel) (fun z => absurd z (by decide)) ?_
  refine cx_putR dX10_init_372 fl_10_151 (Or.inr rfl) rfl (by decide +kernel) (by decide) (by omega) (by decide +kernel) ?_
  refine px_aload_n dX10_init_375 rfl rfl ?_
  refine px_bipush dX10_init_376 bp_45 ?_
  refine cx_newA (rc := 0) (rs := 0) (t := 100) (N := 45) dX10_init_378 (by decide) rfl (px_in1 57 rfl rfl) rfl (by decide) (by decide) (by decide +kernel) (by decide +kernel) (by decide +kernel) (fun z => absurd z (by decide)) ?_
  refine cx_putR dX10_init_380 fl_10_154 (Or.inr rfl) rfl (by decide +kernel) (by decide) (by omega) (by decide +kernel) ?_
  exact px_return dX10_init_383 rfl k
end MAK
