/-! what both objects hold once they are made -/
def tt0 : ct_T := (3, 22, 19)
def gg0 : GG := (aH0, s0 aH0, ((fun _ => s0 aH0), 0, 0), ((fun _ => s0 aH0), 0), ((fun _ _ => 0), 0, 0), ((fun _ => 0), 0), ((fun _ => 0), 0), (0, -1))
def ww0 : pw_W := wk 107 105 35 zJ1
theorem zN_out {L : List (Nat × Nat × Nat)} {a b : Nat} (h : ∀ e ∈ L, e.1 < 108 ∧ e.2.1 < 90) (q : 108 ≤ a ∨ 90 ≤ b) : zN L a b = 0 := by
  induction L with
  | nil => rfl
  | cons e L ih =>
    have he := h e List.mem_cons_self
    rw [zN, if_neg (by omega), ih (fun x hx => h x (List.mem_cons_of_mem _ hx))]
theorem cs_rf_out {a b : Nat} (q : 108 ≤ a ∨ 90 ≤ b) : cs_rf tt0 a b = 0 := by
  unfold cs_rf
  rw [if_neg (by omega), if_neg (by omega), if_neg (by omega)]
  have hl : cs_rl.length = 108 := by decide +kernel
  rcases q with q | q
  · rw [List.getD_eq_getElem?_getD (l := cs_rl), List.getElem?_eq_none (l := cs_rl) (by omega)]; rfl
  · by_cases h : a < 108
    · have := (by decide +kernel : ∀ a, a < 108 → (cs_rl.getD a []).length ≤ 90) a h
      rw [List.getD_eq_getElem?_getD, List.getElem?_eq_none (by omega)]; rfl
    · rw [List.getD_eq_getElem?_getD (l := cs_rl), List.getElem?_eq_none (l := cs_rl) (by omega)]; rfl
theorem zN_flt {L : List (Nat × Nat × Nat)} {a b : Nat} : zN L a b = zN (L.filter (fun e => e.1 == a)) a b := by
  induction L with
  | nil => rfl
  | cons e L ih =>
    by_cases q : e.1 = a
    · rw [List.filter_cons_of_pos (by simp [q]), zN, zN, ih]
    · rw [List.filter_cons_of_neg (by simp [q]), zN, if_neg (fun z => q z.1.symm), ih]
def zRw (a : Nat) : List (Nat × Nat × Nat) := (zLs.take 105).reverse.filter (fun e => e.1 == a)
theorem zRw_no : ∀ a, a < 108 → a ∉ [1, 3, 13, 16, 17, 22, 32, 35, 38, 41, 42, 46, 48, 57, 61] → zRw a = [] ∧ cs_rl.getD a [] = [] := by decide +kernel
theorem zRw_1 : ∀ b, b < 90 → zN (zRw 1) 1 b = cs_rf tt0 1 b := by decide +kernel
theorem zRw_3 : ∀ b, b < 90 → zN (zRw 3) 3 b = cs_rf tt0 3 b := by decide +kernel
theorem zRw_13 : ∀ b, b < 90 → zN (zRw 13) 13 b = cs_rf tt0 13 b := by decide +kernel
theorem zRw_16 : ∀ b, b < 90 → zN (zRw 16) 16 b = cs_rf tt0 16 b := by decide +kernel
theorem zRw_17 : ∀ b, b < 90 → zN (zRw 17) 17 b = cs_rf tt0 17 b := by decide +kernel
theorem zRw_22 : ∀ b, b < 90 → zN (zRw 22) 22 b = cs_rf tt0 22 b := by decide +kernel
theorem zRw_32 : ∀ b, b < 90 → zN (zRw 32) 32 b = cs_rf tt0 32 b := by decide +kernel
theorem zRw_35 : ∀ b, b < 90 → zN (zRw 35) 35 b = cs_rf tt0 35 b := by decide +kernel
theorem zRw_38 : ∀ b, b < 90 → zN (zRw 38) 38 b = cs_rf tt0 38 b := by decide +kernel
theorem zRw_41 : ∀ b, b < 90 → zN (zRw 41) 41 b = cs_rf tt0 41 b := by decide +kernel
theorem zRw_42 : ∀ b, b < 90 → zN (zRw 42) 42 b = cs_rf tt0 42 b := by decide +kernel
theorem zRw_46 : ∀ b, b < 90 → zN (zRw 46) 46 b = cs_rf tt0 46 b := by decide +kernel
theorem zRw_48 : ∀ b, b < 90 → zN (zRw 48) 48 b = cs_rf tt0 48 b := by decide +kernel
theorem zRw_57 : ∀ b, b < 90 → zN (zRw 57) 57 b = cs_rf tt0 57 b := by decide +kernel
theorem zRw_61 : ∀ b, b < 90 → zN (zRw 61) 61 b = cs_rf tt0 61 b := by decide +kernel
theorem ww0_rf : zN (zLs.take 105).reverse = cs_rf tt0 := by
  funext a b
  by_cases q : 108 ≤ a ∨ 90 ≤ b
  · rw [zN_out (by decide +kernel) q, cs_rf_out q]
  · rw [zN_flt]
    show zN (zRw a) a b = cs_rf tt0 a b
    have hb : b < 90 := by omega
    by_cases h : a ∈ [1, 3, 13, 16, 17, 22, 32, 35, 38, 41, 42, 46, 48, 57, 61]
    · simp only [List.mem_cons, List.not_mem_nil, or_false] at h
      rcases h with rfl | rfl | rfl | rfl | rfl | rfl | rfl | rfl | rfl | rfl | rfl | rfl | rfl | rfl | rfl
      · exact zRw_1 b hb
      · exact zRw_3 b hb
      · exact zRw_13 b hb
      · exact zRw_16 b hb
      · exact zRw_17 b hb
      · exact zRw_22 b hb
      · exact zRw_32 b hb
      · exact zRw_35 b hb
      · exact zRw_38 b hb
      · exact zRw_41 b hb
      · exact zRw_42 b hb
      · exact zRw_46 b hb
      · exact zRw_48 b hb
      · exact zRw_57 b hb
      · exact zRw_61 b hb
    · obtain ⟨h1, h2⟩ := zRw_no a (by omega) h
      rw [h1]
      simp only [List.mem_cons, List.not_mem_nil, or_false, not_or] at h
      unfold cs_rf
      rw [if_neg (by omega), if_neg (by omega), if_neg (by omega), h2]
      rfl
theorem ww0_sh : wkS 107 = cs_sh := by
  funext r
  unfold wkS cs_sh
  by_cases q : r ≤ 107
  · rw [if_pos q]
  · have hl : cs_shl.length = 108 := by decide +kernel
    rw [if_neg q, List.getD_eq_getElem?_getD, List.getElem?_eq_none (by omega)]; rfl
theorem ww0_1 : ww0.1 = cs tt0 := by
  show ((107 : Nat), wkS 107, zN (zLs.take 105).reverse) = (107, cs_sh, cs_rf tt0)
  rw [ww0_sh, ww0_rf]
theorem ww0_z {a : Nat} (h : (zIs.take 35).reverse.all (fun e => e.1 != a) = true) (b : Nat) : pw_I ww0 a b = 0 := by
  show zV (zIs.take 35).reverse a b = 0
  rw [zV_no (fun e he => bne_iff_ne.mp (List.all_eq_true.mp h e he))]
theorem gg0_W : WG gg0 := by
  have hs : aW9 aH0 (s0 aH0) := ⟨⟨fun i hi => absurd hi (Nat.not_lt_zero i), by decide, by decide, by decide⟩, by decide⟩
  exact ⟨WD_0.1, ⟨rfl, Nat.le_refl _, by decide, fun i _ => hs⟩, ⟨by decide, fun i _ z => by have z : (0 : Nat).testBit i = true := z; rw [Nat.zero_testBit] at z; cases z⟩, ⟨by decide, by decide, fun j hj => absurd hj (Nat.not_lt_zero j)⟩, by decide, by decide, fun _ => (by decide : 0 < 256)⟩
theorem gg0_X : RX tt0 gg0 ww0 := by
  refine ⟨ww0_1, ⟨Or.inl rfl, Or.inr rfl, by decide, Or.inl rfl⟩, ⟨⟨by decide +kernel, by decide +kernel, by decide +kernel, by decide +kernel, by decide +kernel, by decide +kernel⟩, fun i hi => absurd hi (Nat.not_lt_zero i), fun i hi => absurd hi (Nat.not_lt_zero i), fun i hi => absurd hi (Nat.not_lt_zero i), fun i hi => absurd hi (Nat.not_lt_zero i), by decide +kernel, by decide +kernel, ?_⟩, ⟨fun i hi => absurd hi (Nat.not_lt_zero i), fun i hi => absurd hi (Nat.not_lt_zero i), by decide +kernel, by decide +kernel, by decide +kernel⟩, ⟨by decide +kernel, by decide +kernel, fun i hi => ?_⟩, fun i _ z => ?_, ⟨by decide +kernel, by decide +kernel, fun c _ j hj => absurd hj (Nat.not_lt_zero j), fun j hj => absurd hj (Nat.not_lt_zero j)⟩, Or.inl (by decide +kernel), fun i hi => absurd hi (Nat.not_lt_zero i), fun i hi => absurd hi (Nat.not_lt_zero i), ⟨by decide +kernel, by decide +kernel, by decide +kernel, by decide +kernel, by decide +kernel⟩, fun i hi => ?_⟩
  · exact (by decide +kernel : ∀ i, i < (aPr aH0).length → pw_I ww0 (3 + 11) i = (aPr aH0).getD i 0)
  · exact ⟨fun i hi => absurd hi (Nat.not_lt_zero i), fun i hi => absurd hi (Nat.not_lt_zero i), ww0_z (by decide +kernel) _, ww0_z (by decide +kernel) _, ww0_z (by decide +kernel) _⟩
  · have z : (0 : Nat).testBit i = true := z
    rw [Nat.zero_testBit] at z; cases z
  · show pw_L (wk 107 105 35 zJ1) 18 i = _
    rw [wk_L]; exact zJ1_ok i hi
theorem gg0_M : RM gg0 ww0 := by
  refine ⟨⟨⟨by decide +kernel, by decide +kernel, by decide +kernel, by decide +kernel, by decide +kernel, by decide +kernel, by decide +kernel⟩, fun i hi => absurd hi (Nat.not_lt_zero i), fun i hi => absurd hi (Nat.not_lt_zero i), fun i hi => absurd hi (Nat.not_lt_zero i), Or.inl ⟨by decide +kernel, rfl⟩⟩, ⟨fun i hi => absurd hi (Nat.not_lt_zero i), fun i hi => absurd hi (Nat.not_lt_zero i), by decide +kernel, by decide +kernel, by decide +kernel⟩, fun b hb => absurd hb (Nat.not_lt_zero b), fun i hi => absurd hi (Nat.not_lt_zero i), fun i hi => ⟨?_, fun z => ?_⟩, fun i hi => absurd hi (Nat.not_lt_zero i), fun i hi => absurd hi (Nat.not_lt_zero i), fun i hi => absurd hi (Nat.not_lt_zero i), ⟨by decide +kernel, by decide +kernel, by decide +kernel, by decide +kernel, by decide +kernel, by decide +kernel, by decide +kernel, by decide +kernel⟩⟩
  · rw [ww0_z (by decide +kernel)]
    show (0 : Int32) = jb ((0 : Nat).testBit i = true)
    rw [Nat.zero_testBit]; rfl
  · have z : (0 : Nat).testBit i = true := z
    rw [Nat.zero_testBit] at z; cases z
theorem lOK_0 : lOK (wk 107 105 35 zJ1) := ⟨tt0, gg0, gg0_W, gg0_X, gg0_M⟩
section LST
variable {E : px_E} {Q : Option Value → pw_W → Prop} {nm : String}
/-- the law from its entry -/
theorem law_px (hs : px_sL E ≤ 3072) (h1 : ∀ w, Q (some (.int 1)) w) : px_W E (mLw nm) (8 + 121) 107 13374 0 [.ref 0, .null, .null, .null] [] (wk 0 0 0 zJ0) Q := by
  refine cx_new (rc := 106) (rs := 13359) (N := 15) dL_law_0 px_cf9 (px_in1 21 rfl rfl) (px_in1 22 rfl rfl) (px_in1 1 rfl rfl) (by decide) (by decide +kernel) (by decide +kernel) (by decide +kernel) (by decide +kernel) (fun z => absurd z (by decide)) ?_
  refine px_dup dL_law_3 rfl ?_
  refine px_callI (As := []) (st := [.ref 1]) (mc := 59) (ms := 6230) (rc := 47) (rs := 7129) dL_law_4 lk_L_9 rfl rfl (Nat.le_of_ble_eq_true rfl) (ci_26 (d := 119) ?_)
  refine px_astore_n (ls' := [.ref 0, .ref 1, .null, .null]) dL_law_7 rfl ⟨(by decide : 1 < 4), rfl⟩ rfl ?_
  refine cx_new (rc := 46) (rs := 7044) (N := 85) dL_law_8 px_cf10 (px_in5 206 rfl rfl) (px_in5 207 rfl rfl) (px_in1 15 rfl rfl) (by decide) (by decide +kernel) (by decide +kernel) (by decide +kernel) (by decide +kernel) (fun z => absurd z (by decide)) ?_
  refine px_dup dL_law_11 rfl ?_
  refine px_callI (As := []) (st := [.ref 61]) (mc := 46) (ms := 7044) (rc := 0) (rs := 0) dL_law_12 lk_L_12 rfl rfl (Nat.le_of_ble_eq_true rfl) (ci_27 (d := 126) ?_)
  refine px_astore_n (ls' := [.ref 0, .ref 1, .ref 61, .null]) dL_law_15 rfl ⟨(by decide : 2 < 4), rfl⟩ rfl ?_
  refine px_iconst dL_law_16 ic_0 ?_
  refine px_istore_n (ls' := [.ref 0, .ref 1, .ref 61, .int 0]) dL_law_17 rfl ⟨(by decide : 3 < 4), rfl⟩ rfl ?_
  exact law_loop (d := 8) hs h1 (px_sL E + 1) 0 _ (by omega) (Nat.zero_le _) lOK_0
end LST
