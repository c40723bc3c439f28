/-! the two texts: String's own methods over them -/
section PWT
variable {E : px_E} {mt : pm_T} {d rc rs pc : Nat} {ls st : List Value} {w : pw_W} {Q : Option Value → pw_W → Prop}
theorem px_ldcS {idx r : Nat} {tx : String} (hd : decode mt.2.1 pc = .ok (.ldc idx, 2)) (hz : ∀ s, px_K E s → vk_R mt.1.cls idx tx (px_ad E r) s) (k : px_W E mt d rc rs (pc + 2) ls (.ref r :: st) w Q) : px_W E mt d rc rs pc ls st w Q :=
  px_read (fun p e R s m args below meth c Z H locs cells slots lsA hC hK hH hlo kk => va_ldcS hC.1 hC.2.1 hC.2.2.2.2.1 (hz s hK) hd kk) k
theorem px_tS {s : State} (hK : px_K E s) {i : Nat} (hi : i < 2) : va_O "java/lang/String" (px_ad E (1000001 + i)) (px_A E) s (px_H0 E) ∧ va_OF "java/lang/String" "coder" "B" (.int 0) (px_ad E (1000001 + i)) (px_A E) s (px_H0 E) ∧ va_OF "java/lang/String" "value" "[B" (.ref (px_ad E (1000003 + i))) (px_ad E (1000001 + i)) (px_A E) s (px_H0 E) ∧ va_T .byte (px_ad E (1000003 + i)) (px_len.getD i 0) (fun j => .int ((px_byt.getD i []).getD j 0)) (px_A E) s (px_H0 E) := hK.2.2.2.2.2.1.1.1 i hi
theorem px_getV {i idx : Nat} (hi : i < 2) (hd : decode mt.2.1 pc = .ok (.getfield idx, 3)) (hl : Cond.fieldLink mt.1.cls idx "java/lang/String" "value" "[B" ∈ lw_gd) (k : px_W E mt d rc rs (pc + 3) ls (.ref (1000003 + i) :: st) w Q) : px_W E mt d rc rs pc ls (.ref (1000001 + i) :: st) w Q := by
  refine px_read (fun p e R s m args below meth c Z H locs cells slots lsA hC hK hH hlo kk => ?_) k
  obtain ⟨cf, k, fi, f, cell, h1, h2, h3, h4, h5, h6⟩ := (px_tS hK hi).2.2.1.kept (px_S hH hlo).2.1
  exact W.getf hC.1 hC.2.1 hC.2.2.2.2.1 (hC.2.2.2.2.2.1 _ hl) h1 h2 h3 h4 (v := .ref (px_ad E (1000003 + i))) h5 rfl rfl hd kk
theorem px_getCo {i idx : Nat} (hi : i < 2) (hd : decode mt.2.1 pc = .ok (.getfield idx, 3)) (hl : Cond.fieldLink mt.1.cls idx "java/lang/String" "coder" "B" ∈ lw_gd) (k : px_W E mt d rc rs (pc + 3) ls (.int 0 :: st) w Q) : px_W E mt d rc rs pc ls (.ref (1000001 + i) :: st) w Q := by
  refine px_read (fun p e R s m args below meth c Z H locs cells slots lsA hC hK hH hlo kk => ?_) k
  obtain ⟨cf, k, fi, f, cell, h1, h2, h3, h4, h5, h6⟩ := (px_tS hK hi).2.1.kept (px_S hH hlo).2.1
  exact W.getf hC.1 hC.2.1 hC.2.2.2.2.1 (hC.2.2.2.2.2.1 _ hl) h1 h2 h3 h4 (v := .int 0) h5 rfl rfl hd kk
theorem px_getCS {idx : Nat} (hd : decode mt.2.1 pc = .ok (.getstatic idx, 3)) (hl : Cond.fieldLink mt.1.cls idx "java/lang/String" "COMPACT_STRINGS" "Z" ∈ lw_gd) (k : px_W E mt d rc rs (pc + 3) ls (.int 1 :: st) w Q) : px_W E mt d rc rs pc ls st w Q := by
  refine px_read (fun p e R s m args below meth c Z H locs cells slots lsA hC hK hH hlo kk => ?_) k
  have hS := px_S hH hlo
  obtain ⟨cf, kf, fi, f, a, cell, h1, h2, h3, h4, h5, h6, h7, h8⟩ := hK.2.2.2.2.2.1.2
  exact W.gets hC.1 hC.2.1 hC.2.2.2.2.1 (hC.2.2.2.2.2.1 _ hl) h1 h2 h3 h4 (by rw [hS.2.1 a (Array.getElem?_eq_some_iff.mp h5).1 h8]; exact h5) (fun e => by rw [e] at h6; cases h6) h7 rfl hd kk
theorem px_getSI {idx : Nat} (hd : decode mt.2.1 pc = .ok (.getstatic idx, 3)) (hl : Cond.fieldLink mt.1.cls idx "jdk/internal/util/Preconditions" "SIOOBE_FORMATTER" "Ljava/util/function/BiFunction;" ∈ lw_gd) (k : ∀ x : Value, x.category = 1 → px_W E mt d rc rs (pc + 3) ls (x :: st) w Q) : px_W E mt d rc rs pc ls st w Q := by
  intro p e R s m args below meth c Z cx H locs cells slots lsA hC hK hn hH hlo hL hR
  have hS := px_S hH hlo
  obtain ⟨x, hx, cf, kf, fi, f, a, cell, h1, h2, h3, h4, h5, h6, h7, h8⟩ := hK.2.2.2.2.2.2.2.2
  exact W.gets hC.1 hC.2.1 hC.2.2.2.2.1 (hC.2.2.2.2.2.1 _ hl) h1 h2 h3 h4 (by rw [hS.2.1 a (Array.getElem?_eq_some_iff.mp h5).1 h8]; exact h5) (fun e => by rw [e] at h6; cases h6) h7 rfl hd (k x hx p e R s m args below meth c Z cx H locs cells slots lsA hC hK hn hH hlo hL hR)
theorem px_lenT {i : Nat} {v : Int32} (hi : i < 2) (hd : decode mt.2.1 pc = .ok (.arraylength, 1)) (hv : nI (px_len.getD i 0) = v) (k : px_W E mt d rc rs (pc + 1) ls (.int v :: st) w Q) : px_W E mt d rc rs pc ls (.ref (1000003 + i) :: st) w Q := by
  refine px_read (fun p e R s m args below meth c Z H locs cells slots lsA hC hK hH hlo kk => ?_) k
  have hS := px_S hH hlo
  subst hv
  obtain ⟨cell, h1, h2, h3, h4, h5, h6, h7⟩ := (px_tS hK hi).2.2.2
  exact W.alen (n := Int32.ofNat (px_len.getD i 0)) hC.1 hC.2.1 (by rw [hS.2.1 _ (Array.getElem?_eq_some_iff.mp h1).1 h7]; exact h1) h2 h5 rfl rfl hd kk
theorem px_baldT {i j : Nat} {x v : Int32} (hi : i < 2) (hd : decode mt.2.1 pc = .ok (.baload, 1)) (hx : x = nI j) (hj : j < px_len.getD i 0) (hl : px_len.getD i 0 < 2 ^ 31) (hv : (px_byt.getD i []).getD j 0 = v) (k : px_W E mt d rc rs (pc + 1) ls (.int v :: st) w Q) : px_W E mt d rc rs pc ls (.int x :: .ref (1000003 + i) :: st) w Q := by
  refine px_read (fun p e R s m args below meth c Z H locs cells slots lsA hC hK hH hlo kk => ?_) k
  have hS := px_S hH hlo
  subst hx
  obtain ⟨cell, h1, h2, h3, h4, h5, h6, h7⟩ := (px_tS hK hi).2.2.2
  have hcl : (nI j).toNatClampNeg = j := nI_clamp (by omega)
  have hin' : ¬ (nI j < 0 ∨ cell.slots.size ≤ (nI j).toNatClampNeg) := by
    rw [hcl]
    intro q
    rcases q with q | q
    · exact nI_pos (by omega) q
    · omega
  exact W.bald (v := .int v) hC.1 hC.2.1 (by rw [hS.2.1 _ (Array.getElem?_eq_some_iff.mp h1).1 h7]; exact h1) h2 h3 hin' (by rw [hcl, h6 _ hj]; show some (Value.int ((px_byt.getD i []).getD j 0)) = _; rw [hv]) rfl rfl hd kk
def px_lkT (own : String) (idx : Nat) (mt : pm_T) (n : Nat) : Prop := px_lk own idx mt n ∧ Cond.methodLink own idx mt.1 ∈ lw_gd ∧ Cond.instanceMethod mt.1 ∈ lw_gd ∧ Cond.selects mt.1.cls mt.1 mt.1 ∈ lw_gd ∧ mt.1.cls = "java/lang/String"
theorem px_callT {mt' : pm_T} {idx i n mc ms : Nat} {As : List Value} {st0 : List Value} (hi : i < 2) (hd : decode mt.2.1 pc = .ok (.invokevirtual idx, 3)) (hk : px_lkT mt.1.cls idx mt' n) (h0 : st0 = As.reverse ++ .ref (1000001 + i) :: st) (hn : As.length = n) (hst : (st.map fun v => v.category).sum ≤ 8)
    (hC : px_Call E d mc ms mt' (.ref (1000001 + i) :: As) w (fun v w' => px_W E mt (d + 1) rc rs (pc + 3) ls (v.toList ++ st) w' Q)) : px_W E mt (d + 1) (mc + rc) (ms + rs) pc ls st0 w Q := by
  obtain ⟨⟨k1, k2, k3, k4⟩, k5, k6, k7, k9⟩ := hk
  subst h0
  refine px_after (st := st) (Qa := (Value.ref (px_ad E (1000001 + i)) :: As.map (px_v E)).toArray) (fun p e R s m args below meth c H locs cells slots lsA hc hK hf hl hcc hss hLs hH hsz => ?_)
  have hts := hc.2.2.2.2.2.1
  have hrec : ∃ cell : Cell, H[px_ad E (1000001 + i)]? = some cell ∧ cell.vm.isStatics = false ∧ s.vm.findClass mt'.1.cls = some cell.cls := by
    obtain ⟨cell, h1, h2, h3, -⟩ := (px_tS hK hi).1.kept (H1 := H) (fun q h1 _ => hH.2.1 q h1)
    exact ⟨cell, h1, h2, by rw [k9]; exact h3⟩
  refine va_runV (As := As.map (px_v E)) (rest := st.map (px_v E)) (Ts := lw_gd) (own := mt.1.cls) (nL := mt.2.2.1) (C := mt'.1.cls) (bytes := mt'.2.1) (maxL := mt'.2.2.1) (ret := mt'.2.2.2) ⟨hc.1, hc.2.1, hc.2.2.1, hc.2.2.2.2.1, hts⟩ hC ⟨callB_of n hts (px_goodIn k1) rfl rfl rfl (hts _ k2) (hts _ k5) k3 ⟨?_, ?_⟩, hts _ k6, hts _ k7⟩ ⟨px_Pc_blind, hrec, fun U hU hW => ⟨rfl, px_K.warm hW hK, by rw [hU]; exact hH, by rw [hU]; exact hsz⟩⟩ rfl (by rw [List.length_map]; exact hn) hLs ?_ (lv_room (px_cats hst)) hd ⟨hcc, hss⟩
  · exact hf
  · show 8 + (mt'.2.2.1 + 11) + 100 * d ≤ R.locals
    omega
  · show List.map (px_v E) (As.reverse ++ .ref (1000001 + i) :: st) = _
    rw [List.map_append, List.map_reverse]
    rfl
end PWT
theorem lt_335 : px_lkT "java/lang/String" 335 mJ0_coder_7d493 0 := ⟨kd_J0_coder_7d493, (px_in1 185 rfl rfl), (px_in1 186 rfl rfl), (px_in1 187 rfl rfl), rfl⟩
theorem lt_492 : px_lkT "java/lang/String" 492 mJ0_isLatin1_aae02 0 := ⟨kd_J0_isLatin1_aae02, (px_in1 195 rfl rfl), (px_in1 196 rfl rfl), (px_in1 197 rfl rfl), rfl⟩
theorem lt_633 : px_lkT "java/lang/String" 633 mJ0_indexOf_7cf53 2 := ⟨kd_J0_indexOf_7cf53, (px_in3 38 rfl rfl), (px_in3 39 rfl rfl), (px_in3 40 rfl rfl), rfl⟩
theorem lt_505 : px_lkT "java/lang/String" 505 mJ0_length_8abf5 0 := ⟨kd_J0_length_8abf5, (px_in3 42 rfl rfl), (px_in1 182 rfl rfl), (px_in1 183 rfl rfl), rfl⟩
theorem lt_72 : px_lkT "NettleGreen$Scanner" 72 mJ0_indexOf_0f7a4 1 := ⟨kd_J0_indexOf_0f7a4, (px_in3 34 rfl rfl), (px_in3 35 rfl rfl), (px_in3 36 rfl rfl), rfl⟩
theorem lt_19 : px_lkT "NettleGreen$Scanner" 19 mJ0_length_8abf5 0 := ⟨kd_J0_length_8abf5, (px_in1 181 rfl rfl), (px_in1 182 rfl rfl), (px_in1 183 rfl rfl), rfl⟩
section PWU
variable {E : px_E} {d : Nat} {w : pw_W} {Q : Option Value → pw_W → Prop} {i : Nat}
theorem tl_coder (hi : i < 2) (k : Q (some (.int 0)) w) : px_Call E (d + 1) 0 0 mJ0_coder_7d493 [.ref (1000001 + i)] w Q := by
  refine px_enter (k := 0) (ls := [.ref (1000001 + i)]) (by decide) (Nat.le_of_ble_eq_true rfl) rfl ?_
  refine px_getCS dJ0_coder_7d493_0 (px_in1 189 rfl rfl) ?_
  refine px_if_eq (tgt := 13) dJ0_coder_7d493_3 (by decide) (fun h1 => absurd h1 (by decide)) (fun h1 => ?_)
  refine px_aload_n dJ0_coder_7d493_6 rfl rfl ?_
  refine px_getCo hi dJ0_coder_7d493_7 (px_in9 33 rfl rfl) ?_
  refine px_goto (tgt := 14) dJ0_coder_7d493_10 (by decide) ?_
  exact px_ireturn dJ0_coder_7d493_14 rfl (by decide) k
theorem tl_isLatin1 (hi : i < 2) (k : Q (some (.int 1)) w) : px_Call E (d + 1) 0 0 mJ0_isLatin1_aae02 [.ref (1000001 + i)] w Q := by
  refine px_enter (k := 0) (ls := [.ref (1000001 + i)]) (by decide) (Nat.le_of_ble_eq_true rfl) rfl ?_
  refine px_getCS dJ0_isLatin1_aae02_0 (px_in1 189 rfl rfl) ?_
  refine px_if_eq (tgt := 17) dJ0_isLatin1_aae02_3 (by decide) (fun h1 => absurd h1 (by decide)) (fun h1 => ?_)
  refine px_aload_n dJ0_isLatin1_aae02_6 rfl rfl ?_
  refine px_getCo hi dJ0_isLatin1_aae02_7 (px_in9 33 rfl rfl) ?_
  refine px_if_ne (tgt := 17) dJ0_isLatin1_aae02_10 (by decide) (fun h1 => absurd rfl h1) (fun h1 => ?_)
  refine px_iconst dJ0_isLatin1_aae02_13 ic_1 ?_
  refine px_goto (tgt := 18) dJ0_isLatin1_aae02_14 (by decide) ?_
  exact px_ireturn dJ0_isLatin1_aae02_18 rfl (by decide) k
theorem tl_length (hi : i < 2) (k : Q (some (.int (nI (px_len.getD i 0)))) w) : px_Call E (d + 2) 0 0 mJ0_length_8abf5 [.ref (1000001 + i)] w Q := by
  refine px_enter (k := 0) (ls := [.ref (1000001 + i)]) (by decide) (Nat.le_of_ble_eq_true rfl) rfl ?_
  refine px_aload_n dJ0_length_8abf5_0 rfl rfl ?_
  refine px_getV hi dJ0_length_8abf5_1 (px_in9 32 rfl rfl) ?_
  refine px_lenT hi dJ0_length_8abf5_4 rfl ?_
  refine px_aload_n dJ0_length_8abf5_5 rfl rfl ?_
  refine px_callT (mc := 0) (ms := 0) (rc := 0) (rs := 0) (As := []) (st := [.int (nI (px_len.getD i 0))]) hi dJ0_length_8abf5_6 lt_335 rfl rfl (by show 1 ≤ 8; decide) (tl_coder hi ?_)
  refine px_ishr dJ0_length_8abf5_9 ?_
  refine px_ireturn dJ0_length_8abf5_10 rfl rfl ?_
  have e : js_shr (nI (px_len.getD i 0)) 0 = nI (px_len.getD i 0) := by
    rcases Nat.lt_or_ge i 1 with h | h
    · rw [show i = 0 by omega]; decide
    · rw [show i = 1 by omega]; decide
  rw [e]
  exact k
theorem tl_canEncode {x : Int32} (h0 : ¬ x < 0) (h1 : ¬ 255 < x) (k : Q (some (.int 1)) w) : px_Call E (d + 1) 0 0 mJ1_canEncode_9a6ad [.int x] w Q := by
  refine px_enter (k := 0) (ls := [.int x]) (by decide) (Nat.le_of_ble_eq_true rfl) rfl ?_
  refine px_iload_n dJ1_canEncode_9a6ad_0 rfl rfl ?_
  refine px_if_lt (tgt := 15) dJ1_canEncode_9a6ad_1 (by decide) (fun z => absurd z h0) (fun _ => ?_)
  refine px_iload_n dJ1_canEncode_9a6ad_4 rfl rfl ?_
  refine px_sipush dJ1_canEncode_9a6ad_5 (v := 255) (by decide) ?_
  refine px_icmp_gt (tgt := 15) dJ1_canEncode_9a6ad_8 (by decide) (fun z => absurd z h1) (fun _ => ?_)
  refine px_iconst dJ1_canEncode_9a6ad_11 ic_1 ?_
  refine px_goto (tgt := 16) dJ1_canEncode_9a6ad_12 (by decide) ?_
  exact px_ireturn dJ1_canEncode_9a6ad_16 rfl (by decide) k
end PWU
theorem sg_byt : ∀ j, j < 11 → (px_byt.getD 1 []).getD j 0 = nI (sgS.getD j 0) := by decide +kernel
theorem sg_lt : ∀ c ∈ sgS, 0 < c ∧ c < 128 := by decide
theorem sg_mem {c : Nat} : c ∈ sgS ↔ ∃ q, q < 11 ∧ sgS.getD q 0 = c := by
  constructor
  · intro h
    obtain ⟨n, hn, e⟩ := List.getElem_of_mem h
    exact ⟨n, hn, by rw [List.getD_eq_getElem?_getD, List.getElem?_eq_getElem hn]; exact e⟩
  · rintro ⟨q, hq, e⟩
    rw [← e, List.getD_eq_getElem?_getD, List.getElem?_eq_getElem (show q < sgS.length from hq)]
    exact List.getElem_mem _
theorem bt_lo : ∀ c, c < 128 → js_i2b (nI c) = nI c := by decide +kernel
theorem bt_hi' : ∀ c, c < 128 → js_i2b (nI (c + 128)) < 0 := by decide +kernel
theorem bt_hi {c : Nat} (h1 : 128 ≤ c) (h2 : c < 256) : js_i2b (nI c) < 0 := by
  have := bt_hi' (c - 128) (by omega)
  rw [show c - 128 + 128 = c by omega] at this
  exact this
theorem bt_c : ∀ c, c < 128 → js_i2c (nI c) = nI c := by decide +kernel
section PWU
variable {E : px_E} {d : Nat} {w : pw_W} {Q : Option Value → pw_W → Prop} {c : Nat}
theorem tl_ixL (hc : c < 128) (k1 : ∀ j, j < 11 → c ∈ sgS → Q (some (.int (nI j))) w) (k2 : c ∉ sgS → Q (some (.int (-1))) w) : ∀ (m j : Nat), j + m = 11 → (∀ q, q < j → sgS.getD q 0 ≠ c) → px_W E mJ1_indexOfChar_4cfef (d + 1) 0 0 7 [.ref (1000003 + 1), .int (nI c), .int 0, .int 11, .int (nI c), .int (nI j)] [] w Q := by
  intro m
  induction m with
  | zero =>
    intro j e hn
    refine px_iload dJ1_indexOfChar_4cfef_7 rfl ?_
    refine px_iload_n dJ1_indexOfChar_4cfef_9 rfl rfl ?_
    refine px_icmp_ge (tgt := 31) dJ1_indexOfChar_4cfef_10 (by decide) (fun _ => ?_) (fun z => absurd (nI_le (a := 11) (b := j) (by omega) (by omega)) z)
    refine px_iconst dJ1_indexOfChar_4cfef_31 ic_m1 ?_
    refine px_ireturn dJ1_indexOfChar_4cfef_32 rfl rfl (k2 (fun h => ?_))
    obtain ⟨q, hq, e2⟩ := sg_mem.mp h
    exact hn q (by omega) e2
  | succ m ih =>
    intro j e hn
    refine px_iload dJ1_indexOfChar_4cfef_7 rfl ?_
    refine px_iload_n dJ1_indexOfChar_4cfef_9 rfl rfl ?_
    refine px_icmp_ge (tgt := 31) dJ1_indexOfChar_4cfef_10 (by decide) (fun z => absurd z (nI_ge (a := j) (b := 11) (by omega) (by omega))) (fun _ => ?_)
    refine px_aload_n dJ1_indexOfChar_4cfef_13 rfl rfl ?_
    refine px_iload dJ1_indexOfChar_4cfef_14 rfl ?_
    refine px_baldT (i := 1) (j := j) (by decide) dJ1_indexOfChar_4cfef_16 rfl (by show j < 11; omega) (by decide) (sg_byt j (by omega)) ?_
    refine px_iload dJ1_indexOfChar_4cfef_17 rfl ?_
    have hlt : sgS.getD j 0 < 128 := (sg_lt _ (sg_mem.mpr ⟨j, by omega, rfl⟩)).2
    refine px_icmp_ne (tgt := 25) dJ1_indexOfChar_4cfef_19 (by decide) (fun z => ?_) (fun z => ?_)
    · refine px_iinc dJ1_indexOfChar_4cfef_25 ⟨by decide, rfl⟩ rfl (v := nI (j + 1)) (nI_succ j).symm rfl ?_
      refine px_goto (tgt := 7) dJ1_indexOfChar_4cfef_28 (by decide) ?_
      refine ih (j + 1) (by omega) (fun q hq => ?_)
      by_cases eq : q = j
      · rw [eq]; intro e3; exact z (by rw [e3])
      · exact hn q (by omega)
    · refine px_iload dJ1_indexOfChar_4cfef_22 rfl ?_
      refine px_ireturn dJ1_indexOfChar_4cfef_24 rfl rfl (k1 j (by omega) (sg_mem.mpr ⟨j, by omega, ?_⟩))
      exact za_eq (by omega) (by omega) z
theorem tl_indexOfChar (hc : c < 128) (k1 : ∀ j, j < 11 → c ∈ sgS → Q (some (.int (nI j))) w) (k2 : c ∉ sgS → Q (some (.int (-1))) w) : px_Call E (d + 1) 0 0 mJ1_indexOfChar_4cfef [.ref (1000003 + 1), .int (nI c), .int 0, .int 11] w Q := by
  refine px_enter (k := 2) (ls := [.ref (1000003 + 1), .int (nI c), .int 0, .int 11, .null, .null]) (by decide) (Nat.le_of_ble_eq_true rfl) rfl ?_
  refine px_iload_n dJ1_indexOfChar_4cfef_0 rfl rfl ?_
  refine px_i2b dJ1_indexOfChar_4cfef_1 ?_
  rw [bt_lo c hc]
  refine px_istore dJ1_indexOfChar_4cfef_2 ⟨by decide, rfl⟩ rfl ?_
  refine px_iload_n dJ1_indexOfChar_4cfef_4 rfl rfl ?_
  refine px_istore dJ1_indexOfChar_4cfef_5 ⟨by decide, rfl⟩ rfl ?_
  exact tl_ixL hc k1 k2 11 0 rfl (fun q hq => absurd hq (Nat.not_lt_zero q))
theorem tl_indexOf4 (hc : c < 128) (k1 : ∀ j, j < 11 → c ∈ sgS → Q (some (.int (nI j))) w) (k2 : c ∉ sgS → Q (some (.int (-1))) w) : px_Call E (d + 2) 0 0 mJ1_indexOf_4cfef [.ref (1000003 + 1), .int (nI c), .int 0, .int 11] w Q := by
  refine px_enter (k := 0) (ls := [.ref (1000003 + 1), .int (nI c), .int 0, .int 11]) (by decide) (Nat.le_of_ble_eq_true rfl) rfl ?_
  refine px_iload_n dJ1_indexOf_4cfef_0 rfl rfl ?_
  refine px_callS (As := [.int (nI c)]) (st := []) (rc := 0) (rs := 0) (mc := 0) (ms := 0) dJ1_indexOf_4cfef_1 lk_JStringLatin1_88 rfl rfl (Nat.le_of_ble_eq_true rfl) (tl_canEncode (nI_pos (by omega)) (nI_nlt (a := 255) (by omega) (by omega)) ?_)
  refine px_if_ne (tgt := 9) dJ1_indexOf_4cfef_4 (by decide) (fun _ => ?_) (fun z => absurd z (by decide))
  refine px_iload_n dJ1_indexOf_4cfef_9 rfl rfl ?_
  refine px_iconst dJ1_indexOf_4cfef_10 ic_0 ?_
  refine px_mmax dJ1_indexOf_4cfef_11 (px_in3 49 rfl rfl) (Nat.le_of_ble_eq_true rfl) (by omega) ?_
  refine px_istore_n dJ1_indexOf_4cfef_14 rfl ⟨by decide, rfl⟩ rfl ?_
  refine px_iload_n dJ1_indexOf_4cfef_15 rfl rfl ?_
  refine px_aload_n dJ1_indexOf_4cfef_16 rfl rfl ?_
  refine px_lenT (i := 1) (v := 11) (by decide) dJ1_indexOf_4cfef_17 (by decide) ?_
  refine px_mmin dJ1_indexOf_4cfef_18 (px_in3 52 rfl rfl) (Nat.le_of_ble_eq_true rfl) (by omega) ?_
  refine px_istore_n dJ1_indexOf_4cfef_21 rfl ⟨by decide, rfl⟩ rfl ?_
  show px_W E mJ1_indexOf_4cfef (d + 2) 0 0 22 [.ref (1000003 + 1), .int (nI c), .int 0, .int 11] [] w Q
  refine px_iload_n dJ1_indexOf_4cfef_22 rfl rfl ?_
  refine px_iload_n dJ1_indexOf_4cfef_23 rfl rfl ?_
  refine px_icmp_lt (tgt := 29) dJ1_indexOf_4cfef_24 (by decide) (fun _ => ?_) (fun z => absurd z (by decide))
  refine px_aload_n dJ1_indexOf_4cfef_29 rfl rfl ?_
  refine px_iload_n dJ1_indexOf_4cfef_30 rfl rfl ?_
  refine px_iload_n dJ1_indexOf_4cfef_31 rfl rfl ?_
  refine px_iload_n dJ1_indexOf_4cfef_32 rfl rfl ?_
  refine px_callS (As := [.ref (1000003 + 1), .int (nI c), .int 0, .int 11]) (st := []) (rc := 0) (rs := 0) (mc := 0) (ms := 0) dJ1_indexOf_4cfef_33 lk_JStringLatin1_95 rfl rfl (Nat.le_of_ble_eq_true rfl) (tl_indexOfChar hc (fun j h1 h2 => ?_) (fun h2 => ?_))
  · exact px_ireturn dJ1_indexOf_4cfef_36 rfl rfl (k1 j h1 h2)
  · exact px_ireturn dJ1_indexOf_4cfef_36 rfl rfl (k2 h2)
theorem tl_indexOf2 (hc : c < 128) (k1 : ∀ j, j < 11 → c ∈ sgS → Q (some (.int (nI j))) w) (k2 : c ∉ sgS → Q (some (.int (-1))) w) : px_Call E (d + 3) 0 0 mJ0_indexOf_7cf53 [.ref (1000001 + 1), .int (nI c), .int 0] w Q := by
  refine px_enter (k := 0) (ls := [.ref (1000001 + 1), .int (nI c), .int 0]) (by decide) (Nat.le_of_ble_eq_true rfl) rfl ?_
  refine px_aload_n dJ0_indexOf_7cf53_0 rfl rfl ?_
  refine px_callT (i := 1) (As := []) (st := []) (rc := 0) (rs := 0) (mc := 0) (ms := 0) (by decide) dJ0_indexOf_7cf53_1 lt_492 rfl rfl (Nat.le_of_ble_eq_true rfl) (tl_isLatin1 (by decide) ?_)
  refine px_if_eq (tgt := 23) dJ0_indexOf_7cf53_4 (by decide) (fun z => absurd z (by decide)) (fun _ => ?_)
  refine px_aload_n dJ0_indexOf_7cf53_7 rfl rfl ?_
  refine px_getV (i := 1) (by decide) dJ0_indexOf_7cf53_8 (px_in9 32 rfl rfl) ?_
  refine px_iload_n dJ0_indexOf_7cf53_11 rfl rfl ?_
  refine px_iload_n dJ0_indexOf_7cf53_12 rfl rfl ?_
  refine px_aload_n dJ0_indexOf_7cf53_13 rfl rfl ?_
  refine px_callT (i := 1) (As := []) (st := [.int 0, .int (nI c), .ref (1000003 + 1)]) (rc := 0) (rs := 0) (mc := 0) (ms := 0) (by decide) dJ0_indexOf_7cf53_14 lt_505 rfl rfl (Nat.le_of_ble_eq_true rfl) (tl_length (by decide) ?_)
  refine px_callS (As := [.ref (1000003 + 1), .int (nI c), .int 0, .int 11]) (st := []) (rc := 0) (rs := 0) (mc := 0) (ms := 0) dJ0_indexOf_7cf53_17 lk_JString_637 rfl rfl (Nat.le_of_ble_eq_true rfl) (tl_indexOf4 hc (fun j h1 h2 => ?_) (fun h2 => ?_))
  · refine px_goto (tgt := 36) dJ0_indexOf_7cf53_20 (by decide) ?_
    exact px_ireturn dJ0_indexOf_7cf53_36 rfl rfl (k1 j h1 h2)
  · refine px_goto (tgt := 36) dJ0_indexOf_7cf53_20 (by decide) ?_
    exact px_ireturn dJ0_indexOf_7cf53_36 rfl rfl (k2 h2)
theorem tl_indexOf1 (hc : c < 128) (k1 : ∀ j, j < 11 → c ∈ sgS → Q (some (.int (nI j))) w) (k2 : c ∉ sgS → Q (some (.int (-1))) w) : px_Call E (d + 4) 0 0 mJ0_indexOf_0f7a4 [.ref (1000001 + 1), .int (nI c)] w Q := by
  refine px_enter (k := 0) (ls := [.ref (1000001 + 1), .int (nI c)]) (by decide) (Nat.le_of_ble_eq_true rfl) rfl ?_
  refine px_aload_n dJ0_indexOf_0f7a4_0 rfl rfl ?_
  refine px_iload_n dJ0_indexOf_0f7a4_1 rfl rfl ?_
  refine px_iconst dJ0_indexOf_0f7a4_2 ic_0 ?_
  refine px_callT (i := 1) (As := [.int (nI c), .int 0]) (st := []) (rc := 0) (rs := 0) (mc := 0) (ms := 0) (by decide) dJ0_indexOf_0f7a4_3 lt_633 rfl rfl (Nat.le_of_ble_eq_true rfl) (tl_indexOf2 hc (fun j h1 h2 => ?_) (fun h2 => ?_))
  · exact px_ireturn dJ0_indexOf_0f7a4_6 rfl rfl (k1 j h1 h2)
  · exact px_ireturn dJ0_indexOf_0f7a4_6 rfl rfl (k2 h2)
theorem tX6_takeSign {t : ct_T} {n j : Nat} (hw : w.1 = cs t) (htx : t.2.2 = 2) (hc : c < 256) (h3 : pw_I w 17 3 = nI j) (h2 : pw_I w 17 2 = nI n) (hj : j < n) (hn : n ≤ 1600) (hb : pw_I w 2 j = js_i2b (nI c))
    (k1 : c ∈ sgS → Q none (pw_sI (pw_sI (pw_sI w 17 5 (nI c)) 17 4 5) 17 3 (nI (j + 1)))) (k2 : c ∉ sgS → ∀ v, Q none (pw_sI (pw_sI (pw_sI w 17 5 v) 17 4 1) 17 3 (nI (j + 1)))) : px_Call E (d + 5) 0 0 mX6_takeSignOrEnd [.ref 17] w Q := by
  refine eX6_takeSignOrEnd hw (fun _ => ?_) (fun z => absurd (by rw [h3, h2]; exact nI_lt hj (by omega)) z)
  have at3 : ∀ v, pw_I (pw_sI w 17 5 v) 17 3 = nI j := fun v => by rw [pw_oth (by decide)]; exact h3
  refine px_aload_n dX6_takeSignOrEnd_17 rfl rfl ?_
  refine px_aload_n dX6_takeSignOrEnd_18 rfl rfl ?_
  refine px_getR (v := 2) dX6_takeSignOrEnd_19 fr_6_13 rfl (px_sh1 hw sh_17) (px_rf hw ((rf_17_1 (t := t)).trans htx)) (by decide) ?_
  refine px_aload_n dX6_takeSignOrEnd_22 rfl rfl ?_
  refine px_getI dX6_takeSignOrEnd_23 fr_6_42 rfl (px_sh1 hw sh_17) ?_
  refine px_bald dX6_takeSignOrEnd_26 (px_sh2 hw sh_2) (by decide) j h3 (by omega) ?_
  refine px_putI dX6_takeSignOrEnd_27 fl_6_58 (Or.inl rfl) rfl (px_sh1 hw sh_17) rfl rfl (by omega) ?_
  refine px_aload_n dX6_takeSignOrEnd_30 rfl rfl ?_
  refine px_aload_n dX6_takeSignOrEnd_31 rfl rfl ?_
  refine px_getIv (v := pw_I w 2 j) dX6_takeSignOrEnd_32 fr_6_58 rfl (px_sh1 (hI hw) sh_17) (pw_same) ?_
  have no : c ∉ sgS → px_W E mX6_takeSignOrEnd (d + 5) 0 0 55 [.ref 17] [.ref 17] (pw_sI w 17 5 (pw_I w 2 j)) Q := fun hm => by
    refine bX6_takeSignOrEnd_55 (hI hw) (bX6_takeSignOrEnd_56 (hI hw) ?_)
    have := k2 hm (pw_I w 2 j)
    rw [at3, ← nI_succ]
    exact this
  refine px_if_le (tgt := 55) dX6_takeSignOrEnd_35 (by decide) (fun z => ?_) (fun z => ?_)
  · refine no (fun hm => ?_)
    have q := sg_lt c hm
    rw [hb, bt_lo c q.2] at z
    exact absurd z (nI_ge (a := 0) (b := c) (by omega) (by omega))
  · have hlo : c < 128 := by
      rcases Nat.lt_or_ge c 128 with q | q
      · exact q
      · have := bt_hi q hc
        rw [hb] at z
        exact absurd (Int32.le_of_lt this) z
    have eb : pw_I w 2 j = nI c := by rw [hb, bt_lo c hlo]
    refine px_ldcS (r := 1000001 + 1) dX6_takeSignOrEnd_38 (fun s hK => hK.2.2.2.2.2.2.2.1) ?_
    refine px_aload_n dX6_takeSignOrEnd_40 rfl rfl ?_
    refine px_getIv (v := nI c) dX6_takeSignOrEnd_41 fr_6_58 rfl (px_sh1 (hI hw) sh_17) (by rw [pw_same]; exact eb) ?_
    refine px_i2c dX6_takeSignOrEnd_44 ?_
    rw [bt_c c hlo]
    refine px_callT (i := 1) (As := [.int (nI c)]) (st := [.ref 17]) (rc := 0) (rs := 0) (mc := 0) (ms := 0) (by decide) dX6_takeSignOrEnd_45 lt_72 rfl rfl (Nat.le_of_ble_eq_true rfl) (tl_indexOf1 hlo (fun q h1 h2 => ?_) (fun h2 => ?_))
    · refine bX6_takeSignOrEnd_48 (hI hw) (fun z2 => absurd z2 (nI_pos (by omega))) (fun _ => bX6_takeSignOrEnd_56 (hI hw) ?_)
      have := k1 h2
      rw [at3, ← nI_succ, eb]
      exact this
    · exact bX6_takeSignOrEnd_48 (hI hw) (fun _ => no h2) (fun z2 => absurd (by decide) z2)
end PWU
