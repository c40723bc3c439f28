/-! the class's scanner learns its words -/
theorem lt_25 : px_lkT "NettleGreen$Scanner" 25 mJ0_charAt_5068e 1 := ⟨kd_J0_charAt_5068e, (px_in1 191 rfl rfl), (px_in1 192 rfl rfl), (px_in1 193 rfl rfl), rfl⟩
def zTx : List Nat := px_tx0.toList.map (fun c => c.toNat)
theorem zTx_len : zTx.length = 104 := by decide +kernel
theorem zTx_b : ∀ j, j < 104 → (px_byt.getD 0 []).getD j 0 = nI (zTx.getD j 0) ∧ zTx.getD j 0 < 128 ∧ 32 ≤ zTx.getD j 0 := by decide +kernel
section SCN
variable {E : px_E} {d : Nat} {w : pw_W} {Q : Option Value → pw_W → Prop}
theorem tl_checkIndex3 {x : Value} {i n : Nat} (hx : x.category = 1) (hi : i < n) (hn : n < 2 ^ 31) (k : Q (some (.int (nI i))) w) : px_Call E (d + 1) 0 0 mJ3_checkIndex_8e157 [.int (nI i), .int (nI n), x] w Q := by
  refine px_enter (k := 0) (ls := [.int (nI i), .int (nI n), x]) (by decide) ?_ ?_ ?_
  · show 1 + (1 + (x.category + 0)) ≤ 3
    rw [hx]; decide
  · show px_ex [.int (nI i), .int (nI n), x] ++ [] = _
    rw [List.append_nil]
    cases x <;> first | rfl | (cases hx)
  · refine px_iload_n dJ3_checkIndex_8e157_0 rfl rfl ?_
    refine px_if_lt (tgt := 9) dJ3_checkIndex_8e157_1 (by decide) (fun z => absurd z (nI_pos (by omega))) (fun _ => ?_)
    refine px_iload_n dJ3_checkIndex_8e157_4 rfl rfl ?_
    refine px_iload_n dJ3_checkIndex_8e157_5 rfl rfl ?_
    refine px_icmp_lt (tgt := 16) dJ3_checkIndex_8e157_6 (by decide) (fun _ => ?_) (fun z => absurd (nI_lt hi hn) z)
    refine px_iload_n dJ3_checkIndex_8e157_16 rfl rfl ?_
    exact px_ireturn dJ3_checkIndex_8e157_17 rfl rfl k
theorem tl_checkIndex2 {i n : Nat} (hi : i < n) (hn : n < 2 ^ 31) (k : Q none w) : px_Call E (d + 2) 0 0 mJ0_checkIndex_df160 [.int (nI i), .int (nI n)] w Q := by
  refine px_enter (k := 0) (ls := [.int (nI i), .int (nI n)]) (by decide) (Nat.le_of_ble_eq_true rfl) rfl ?_
  refine px_iload_n dJ0_checkIndex_df160_0 rfl rfl ?_
  refine px_iload_n dJ0_checkIndex_df160_1 rfl rfl ?_
  refine px_getSI dJ0_checkIndex_df160_2 (px_in1 205 rfl rfl) (fun x hx => ?_)
  refine px_callS (As := [.int (nI i), .int (nI n), x]) (st := []) (rc := 0) (rs := 0) (mc := 0) (ms := 0) dJ0_checkIndex_df160_5 lk_JString_1059 rfl rfl (Nat.le_of_ble_eq_true rfl) (tl_checkIndex3 hx hi hn ?_)
  refine px_pop dJ0_checkIndex_df160_8 rfl ?_
  exact px_return dJ0_checkIndex_df160_9 rfl k
theorem bt_and : ∀ c, c < 128 → js_i2c (nI c &&& 255) = nI c := by decide +kernel
theorem bt_nar : ∀ c, c < 128 → narrow .char (.int (nI c)) = .int (nI c) := by decide +kernel
theorem tl_charAtL {j : Nat} (hj : j < 104) (k : Q (some (.int (nI (zTx.getD j 0)))) w) : px_Call E (d + 3) 0 0 mJ1_charAt_3b067 [.ref (1000003 + 0), .int (nI j)] w Q := by
  obtain ⟨h1, h2, -⟩ := zTx_b j hj
  refine px_enter (k := 0) (ls := [.ref (1000003 + 0), .int (nI j)]) (by decide) (Nat.le_of_ble_eq_true rfl) rfl ?_
  refine px_iload_n dJ1_charAt_3b067_0 rfl rfl ?_
  refine px_aload_n dJ1_charAt_3b067_1 rfl rfl ?_
  refine px_lenT (i := 0) (v := nI 104) (by decide) dJ1_charAt_3b067_2 rfl ?_
  refine px_callS (As := [.int (nI j), .int (nI 104)]) (st := []) (rc := 0) (rs := 0) (mc := 0) (ms := 0) dJ1_charAt_3b067_3 lk_JStringLatin1_9 rfl rfl (Nat.le_of_ble_eq_true rfl) (tl_checkIndex2 hj (by decide) ?_)
  refine px_aload_n dJ1_charAt_3b067_6 rfl rfl ?_
  refine px_iload_n dJ1_charAt_3b067_7 rfl rfl ?_
  refine px_baldT (i := 0) (j := j) (by decide) dJ1_charAt_3b067_8 rfl hj (by decide) h1 ?_
  refine px_sipush dJ1_charAt_3b067_9 sp_255 ?_
  refine px_iand dJ1_charAt_3b067_12 ?_
  refine px_i2c dJ1_charAt_3b067_13 ?_
  rw [bt_and _ h2]
  exact px_ireturn dJ1_charAt_3b067_14 rfl (bt_nar _ h2) k
theorem tl_charAt {j : Nat} (hj : j < 104) (k : Q (some (.int (nI (zTx.getD j 0)))) w) : px_Call E (d + 4) 0 0 mJ0_charAt_5068e [.ref (1000001 + 0), .int (nI j)] w Q := by
  obtain ⟨h1, h2, -⟩ := zTx_b j hj
  refine px_enter (k := 0) (ls := [.ref (1000001 + 0), .int (nI j)]) (by decide) (Nat.le_of_ble_eq_true rfl) rfl ?_
  refine px_aload_n dJ0_charAt_5068e_0 rfl rfl ?_
  refine px_callT (i := 0) (As := []) (st := []) (rc := 0) (rs := 0) (mc := 0) (ms := 0) (by decide) dJ0_charAt_5068e_1 lt_492 rfl rfl (Nat.le_of_ble_eq_true rfl) (tl_isLatin1 (by decide) ?_)
  refine px_if_eq (tgt := 16) dJ0_charAt_5068e_4 (by decide) (fun z => absurd z (by decide)) (fun _ => ?_)
  refine px_aload_n dJ0_charAt_5068e_7 rfl rfl ?_
  refine px_getV (i := 0) (by decide) dJ0_charAt_5068e_8 (px_in9 32 rfl rfl) ?_
  refine px_iload_n dJ0_charAt_5068e_11 rfl rfl ?_
  refine px_callS (As := [.ref (1000003 + 0), .int (nI j)]) (st := []) (rc := 0) (rs := 0) (mc := 0) (ms := 0) dJ0_charAt_5068e_12 lk_JString_495 rfl rfl (Nat.le_of_ble_eq_true rfl) (tl_charAtL hj ?_)
  exact px_ireturn dJ0_charAt_5068e_15 rfl (bt_nar _ h2) k
end SCN
/-- the words learned from the rest of the text -/
def zSc : List Nat → Nat → (Nat → Int64) → Nat × (Nat → Int64)
  | [], m, f => (m, f)
  | c :: l, m, f => if m < 20 then (if c = 32 then zSc l (m + 1) f else zSc l m (fun q => if q = m then hX6_spelledOn (f m) (nI c) else f q)) else (m, f)
def zJ1 : Nat → Int64 := (zSc zTx 0 zJ0).2
theorem wk_sL {k j i m : Nat} {v : Int64} {J : Nat → Int64} : pw_sL (wk k j i J) 18 m v = wk k j i (fun q => if q = m then v else J q) := by
  have h : pw_u2 (fun a => if a = 18 then J else fun _ => (0 : Int64)) 18 m v = (fun a => if a = 18 then (fun q => if q = m then v else J q) else fun _ => 0) := by
    funext a b
    show (if a = 18 ∧ b = m then v else (if a = 18 then J else fun _ => (0 : Int64)) b) = (if a = 18 then (fun q => if q = m then v else J q) else fun _ => 0) b
    by_cases h1 : a = 18
    · rw [if_pos h1, if_pos h1]
      by_cases h2 : b = m
      · rw [if_pos ⟨h1, h2⟩, if_pos h2]
      · rw [if_neg (fun z => h2 z.2), if_neg h2]
    · rw [if_neg (fun z => h1 z.1), if_neg h1, if_neg h1]
  show ((k, wkS k, zN (zLs.take j).reverse), zV (zIs.take i).reverse, pw_u2 (fun a => if a = 18 then J else fun _ => (0 : Int64)) 18 m v) = _
  rw [h]
  rfl
theorem wk_L {k j i m : Nat} {J : Nat → Int64} : pw_L (wk k j i J) 18 m = J m := by
  show (if (18 : Nat) = 18 then J else fun _ => (0 : Int64)) m = J m
  rw [if_pos rfl]
section SCN
variable {E : px_E} {d : Nat} {Q : Option Value → pw_W → Prop}
theorem cx_scL (k : Q none (wk 19 16 17 zJ1)) : ∀ (n i m : Nat) (f : Nat → Int64), i + n = 104 → m ≤ 20 → (zSc (zTx.drop i) m f).2 = zJ1 → px_W E mX6_init (d + 7) 0 0 23 [.ref 17, .int (nI m), .int (nI i), .null] [] (wk 19 16 17 f) Q := by
  intro n
  induction n with
  | zero =>
    intro i m f hi hm hf
    have e : zTx.drop i = [] := List.drop_eq_nil_of_le (by rw [zTx_len]; omega)
    rw [e, zSc] at hf
    have hf : f = zJ1 := hf
    subst hf
    refine px_iload_n dX6_init_23 rfl rfl ?_
    refine px_ldcS (r := 1000001 + 0) dX6_init_24 (fun s hK => hK.2.2.2.2.2.2.1) ?_
    refine px_callT (i := 0) (As := []) (st := [.int (nI i)]) (rc := 0) (rs := 0) (mc := 0) (ms := 0) (by decide) dX6_init_26 lt_19 rfl rfl (Nat.le_of_ble_eq_true rfl) (tl_length (by decide) ?_)
    refine px_icmp_ge (tgt := 79) dX6_init_29 (by decide) (fun _ => px_return dX6_init_79 rfl k) (fun z => absurd (nI_le (a := 104) (b := i) (by omega) (by omega)) z)
  | succ n ih =>
    intro i m f hi hm hf
    have hlt : i < 104 := by omega
    have e : zTx.drop i = zTx.getD i 0 :: zTx.drop (i + 1) := by
      rw [List.drop_eq_getElem_cons (by rw [zTx_len]; exact hlt), List.getD_eq_getElem?_getD, List.getElem?_eq_getElem (by rw [zTx_len]; exact hlt)]
      rfl
    rw [e, zSc] at hf
    obtain ⟨-, c1, c2⟩ := zTx_b i hlt
    refine px_iload_n dX6_init_23 rfl rfl ?_
    refine px_ldcS (r := 1000001 + 0) dX6_init_24 (fun s hK => hK.2.2.2.2.2.2.1) ?_
    refine px_callT (i := 0) (As := []) (st := [.int (nI i)]) (rc := 0) (rs := 0) (mc := 0) (ms := 0) (by decide) dX6_init_26 lt_19 rfl rfl (Nat.le_of_ble_eq_true rfl) (tl_length (by decide) ?_)
    refine px_icmp_ge (tgt := 79) dX6_init_29 (by decide) (fun z => absurd z (nI_ge (a := i) (b := 104) (by omega) (by omega))) (fun _ => ?_)
    refine px_iload_n dX6_init_32 rfl rfl ?_
    refine px_bipush dX6_init_33 bp_20 ?_
    refine px_icmp_ge (tgt := 79) dX6_init_35 (by decide) (fun z => ?_) (fun z => ?_)
    · have hm2 : 20 ≤ m := za_le (a := 20) (by decide) (by omega) z
      rw [if_neg (by omega)] at hf
      have hf : f = zJ1 := hf
      subst hf
      exact px_return dX6_init_79 rfl k
    · have hm2 : m < 20 := Nat.lt_of_not_le (fun q => z (nI_le (a := 20) q (by omega)))
      rw [if_pos hm2] at hf
      refine px_ldcS (r := 1000001 + 0) dX6_init_38 (fun s hK => hK.2.2.2.2.2.2.1) ?_
      refine px_iload_n dX6_init_40 rfl rfl ?_
      refine px_callT (i := 0) (As := [.int (nI i)]) (st := []) (rc := 0) (rs := 0) (mc := 0) (ms := 0) (by decide) dX6_init_41 lt_25 rfl rfl (Nat.le_of_ble_eq_true rfl) (tl_charAt hlt ?_)
      refine px_istore_n (ls' := [.ref 17, .int (nI m), .int (nI i), .int (nI (zTx.getD i 0))]) dX6_init_44 rfl ⟨by decide, rfl⟩ rfl ?_
      refine px_iload_n dX6_init_45 rfl rfl ?_
      refine px_bipush dX6_init_46 bp_32 ?_
      refine px_icmp_ne (tgt := 57) dX6_init_48 (by decide) (fun z => ?_) (fun z => ?_)
      · have hc : ¬ zTx.getD i 0 = 32 := fun q => z (by rw [q]; rfl)
        rw [if_neg hc] at hf
        refine px_aload_n dX6_init_57 rfl rfl ?_
        refine cx_getR (v := 18) dX6_init_58 fr_6_9 rfl (by decide +kernel) (by decide +kernel) (by decide) ?_
        refine px_iload_n dX6_init_61 rfl rfl ?_
        refine px_aload_n dX6_init_62 rfl rfl ?_
        refine cx_getR (v := 18) dX6_init_63 fr_6_9 rfl (by decide +kernel) (by decide +kernel) (by decide) ?_
        refine px_iload_n dX6_init_66 rfl rfl ?_
        refine px_lald dX6_init_67 (wk_sh (t := (103, 20)) (by decide +kernel)) (by decide) m rfl hm2 ?_
        rw [wk_L]
        refine px_iload_n dX6_init_68 rfl rfl ?_
        refine px_callS (As := [.long (f m), .int (nI (zTx.getD i 0))]) (st := [.int (nI m), .ref 18]) (rc := 0) (rs := 0) (mc := 0) (ms := 0) dX6_init_69 lk_6_29 rfl rfl (Nat.le_of_ble_eq_true rfl) (sX6_spelledOn ?_)
        refine px_last dX6_init_72 (wk_sh (t := (103, 20)) (by decide +kernel)) (by decide) m rfl hm2 (by omega) ?_
        rw [wk_sL]
        refine px_iinc (ls' := [.ref 17, .int (nI m), .int (nI i + 1), .int (nI (zTx.getD i 0))]) dX6_init_73 ⟨by decide, rfl⟩ rfl rfl rfl ?_
        refine px_goto (tgt := 23) dX6_init_76 (by decide) ?_
        rw [nI_1]
        exact px_forget (ih (i + 1) m _ (by omega) hm hf) ⟨Or.inr rfl, Or.inr rfl, Or.inr rfl, Or.inl rfl, trivial⟩
      · have hc : zTx.getD i 0 = 32 := za_eq (b := 32) (by omega) (by decide) z
        rw [if_pos hc] at hf
        refine px_iinc (ls' := [.ref 17, .int (nI m + 1), .int (nI i), .int (nI (zTx.getD i 0))]) dX6_init_51 ⟨by decide, rfl⟩ rfl rfl rfl ?_
        refine px_goto (tgt := 73) dX6_init_54 (by decide) ?_
        refine px_iinc (ls' := [.ref 17, .int (nI m + 1), .int (nI i + 1), .int (nI (zTx.getD i 0))]) dX6_init_73 ⟨by decide, rfl⟩ rfl rfl rfl ?_
        refine px_goto (tgt := 23) dX6_init_76 (by decide) ?_
        rw [nI_1, nI_1]
        exact px_forget (ih (i + 1) (m + 1) f (by omega) (by omega) hf) ⟨Or.inr rfl, Or.inr rfl, Or.inr rfl, Or.inl rfl, trivial⟩
theorem cx_scan (k : Q none (wk 19 16 17 zJ1)) : px_W E mX6_init (d + 7) 0 0 19 [.ref 17, .null, .null, .null] [] (wk 19 16 17 zJ0) Q := by
  refine px_iconst dX6_init_19 ic_0 ?_
  refine px_istore_n (ls' := [.ref 17, .int 0, .null, .null]) dX6_init_20 rfl ⟨by decide, rfl⟩ rfl ?_
  refine px_iconst dX6_init_21 ic_0 ?_
  refine px_istore_n (ls' := [.ref 17, .int 0, .int 0, .null]) dX6_init_22 rfl ⟨by decide, rfl⟩ rfl ?_
  exact cx_scL k 104 0 0 zJ0 rfl (by decide) rfl
end SCN
theorem zJ1_ok : ∀ i, i < 20 → zJ1 i = Int64.ofNat (e27 (kwS.getD i [])) := by decide +kernel
