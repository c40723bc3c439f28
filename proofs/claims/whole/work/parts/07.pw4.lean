/-! arrays -/
def px_tt (t : Nat) : FieldType := match t with
  | 100 => .int
  | 101 => .byte
  | 102 => .boolean
  | _ => .long
theorem px_e_a {E : px_E} {w : pw_W} {r t n : Nat} (h : pw_sh w r = (t, n)) (ht : t = 100 ∨ t = 101 ∨ t = 102) : px_e E w r = .inl (px_cA E (t - 100), n, .inl (pw_I w r)) := by
  unfold px_e
  rw [h]
  rcases ht with rfl | rfl | rfl <;> rfl
theorem px_e_l {E : px_E} {w : pw_W} {r n : Nat} (h : pw_sh w r = (103, n)) : px_e E w r = .inl (px_cA E 3, n, .inr (.inl (pw_L w r))) := by
  unfold px_e
  rw [h]
  rfl
theorem px_sI_row {w : pw_W} {r i : Nat} {v : Int32} : pw_I (pw_sI w r i v) r = upd (pw_I w r) i v := by
  funext j
  rw [pw_I_sI]
  by_cases h : j = i
  · subst h; simp [upd]
  · simp [upd, h]
theorem px_sL_row {w : pw_W} {r i : Nat} {v : Int64} : pw_L (pw_sL w r i v) r = vp_updL (pw_L w r) i v := by
  funext j
  rw [pw_L_sL]
  by_cases h : j = i
  · subst h; simp [vp_updL]
  · simp [vp_updL, h]
theorem px_sA_row {w : pw_W} {r : Nat} {f : Nat → Int32} : pw_I (pw_sA w r f) r = f := by
  funext j
  rw [pw_I_sA, if_pos rfl]
theorem px_nIin {i : Int32} {j n : Nat} (hi : i = nI j) (hj : j < n) (hn : n < 2 ^ 31) : vp_in i n ∧ i.toNatClampNeg = j := by
  subst hi
  exact ⟨vp_in_nI hj hn, nI_clamp (by omega)⟩
section PWR
variable {E : px_E} {mt : pm_T} {d rc rs pc : Nat} {ls st : List Value} {w : pw_W} {Q : Option Value → pw_W → Prop}
theorem px_iald {r n : Nat} {i : Int32} (hd : decode mt.2.1 pc = .ok (.iaload, 1)) (hs : pw_sh w r = (100, n)) (hn : n < 2 ^ 31) (j : Nat) (hi : i = nI j) (hj : j < n) (kk : px_W E mt d rc rs (pc + 1) ls (.int (pw_I w r j) :: st) w Q) : px_W E mt d rc rs pc ls (.int i :: .ref r :: st) w Q := by
  obtain ⟨q1, q2⟩ := px_nIin hi hj hn
  refine px_read (fun p e R s m args below meth c Z H locs cells slots lsA hC hK hH hlo kk => ?_) kk
  obtain ⟨h1, h2⟩ := hH.2.2.2.2 r (by rw [hs]; omega)
  refine va_iald hC.1 hC.2.1 hK.1 hH.1 (r - 1) 0 (by rw [px_ws_at h1 h2, px_e_a hs (Or.inl rfl)]) rfl q1 hd ?_
  rw [q2]
  exact kk
theorem px_bald {r n : Nat} {i : Int32} (hd : decode mt.2.1 pc = .ok (.baload, 1)) (hs : pw_sh w r = (101, n)) (hn : n < 2 ^ 31) (j : Nat) (hi : i = nI j) (hj : j < n) (kk : px_W E mt d rc rs (pc + 1) ls (.int (pw_I w r j) :: st) w Q) : px_W E mt d rc rs pc ls (.int i :: .ref r :: st) w Q := by
  obtain ⟨q1, q2⟩ := px_nIin hi hj hn
  refine px_read (fun p e R s m args below meth c Z H locs cells slots lsA hC hK hH hlo kk => ?_) kk
  obtain ⟨h1, h2⟩ := hH.2.2.2.2 r (by rw [hs]; omega)
  refine va_bald hC.1 hC.2.1 hK.1 hH.1 (r - 1) 1 (by rw [px_ws_at h1 h2, px_e_a hs (Or.inr (Or.inl rfl))]) rfl q1 hd ?_
  rw [q2]
  exact kk
theorem px_zald {r n : Nat} {i : Int32} (hd : decode mt.2.1 pc = .ok (.baload, 1)) (hs : pw_sh w r = (102, n)) (hn : n < 2 ^ 31) (j : Nat) (hi : i = nI j) (hj : j < n) (kk : px_W E mt d rc rs (pc + 1) ls (.int (pw_I w r j) :: st) w Q) : px_W E mt d rc rs pc ls (.int i :: .ref r :: st) w Q := by
  obtain ⟨q1, q2⟩ := px_nIin hi hj hn
  refine px_read (fun p e R s m args below meth c Z H locs cells slots lsA hC hK hH hlo kk => ?_) kk
  obtain ⟨h1, h2⟩ := hH.2.2.2.2 r (by rw [hs]; omega)
  refine va_zald hC.1 hC.2.1 hK.1 hH.1 (r - 1) 2 (by rw [px_ws_at h1 h2, px_e_a hs (Or.inr (Or.inr rfl))]) rfl q1 hd ?_
  rw [q2]
  exact kk
theorem px_lald {r n : Nat} {i : Int32} (hd : decode mt.2.1 pc = .ok (.laload, 1)) (hs : pw_sh w r = (103, n)) (hn : n < 2 ^ 31) (j : Nat) (hi : i = nI j) (hj : j < n) (kk : px_W E mt d rc rs (pc + 1) ls (.long (pw_L w r j) :: st) w Q) : px_W E mt d rc rs pc ls (.int i :: .ref r :: st) w Q := by
  obtain ⟨q1, q2⟩ := px_nIin hi hj hn
  refine px_read (fun p e R s m args below meth c Z H locs cells slots lsA hC hK hH hlo kk => ?_) kk
  obtain ⟨h1, h2⟩ := hH.2.2.2.2 r (by rw [hs]; omega)
  refine va_lald hC.1 hC.2.1 hK.1 hH.1 (r - 1) 3 (by rw [px_ws_at h1 h2, px_e_l hs]) rfl q1 hd ?_
  rw [q2]
  exact kk
/-- the law's script -/
theorem px_sld {i : Int32} (hd : decode mt.2.1 pc = .ok (.iaload, 1)) (j : Nat) (hi : i = nI j) (hj : j < px_sL E) (hn : px_sL E < 2 ^ 31) (kk : px_W E mt d rc rs (pc + 1) ls (.int (px_sx E j) :: st) w Q) : px_W E mt d rc rs pc ls (.int i :: .ref 0 :: st) w Q := by
  obtain ⟨q1, q2⟩ := px_nIin hi hj hn
  refine px_read (fun p e R s m args below meth c Z H locs cells slots lsA hC hK hH hlo kk => ?_) kk
  refine va_sld hC.1 hC.2.1 hK.2.2.2.1 hK.2.2.1 (Nat.not_le.mpr hK.2.2.1) (px_S hH hlo) q1 hd ?_
  rw [q2]
  exact kk
theorem px_slen (hd : decode mt.2.1 pc = .ok (.arraylength, 1)) (kk : px_W E mt d rc rs (pc + 1) ls (.int (nI (px_sL E)) :: st) w Q) : px_W E mt d rc rs pc ls (.ref 0 :: st) w Q :=
  px_read (fun p e R s m args below meth c Z H locs cells slots lsA hC hK hH hlo kk => va_slen hC.1 hC.2.1 hK.2.2.2.1 hK.2.2.1 (Nat.not_le.mpr hK.2.2.1) (px_S hH hlo) hd kk) kk
theorem px_alen {r t n : Nat} {v : Int32} (hd : decode mt.2.1 pc = .ok (.arraylength, 1)) (hs : pw_sh w r = (t, n)) (ht : t = 100 ∨ t = 101 ∨ t = 102) (hv : nI n = v) (kk : px_W E mt d rc rs (pc + 1) ls (.int v :: st) w Q) : px_W E mt d rc rs pc ls (.ref r :: st) w Q := by
  refine px_read (fun p e R s m args below meth c Z H locs cells slots lsA hC hK hH hlo kk => ?_) kk
  obtain ⟨h1, h2⟩ := hH.2.2.2.2 r (by rw [hs]; omega)
  rcases ht with rfl | rfl | rfl
  · exact va_alen hC.1 hC.2.1 hK.1 hH.1 (r - 1) 0 (x := (n, .inl (pw_I w r))) (by rw [px_ws_at h1 h2, px_e_a hs (Or.inl rfl)]) (ty := .int) rfl hv hd kk
  · exact va_alen hC.1 hC.2.1 hK.1 hH.1 (r - 1) 1 (x := (n, .inl (pw_I w r))) (by rw [px_ws_at h1 h2, px_e_a hs (Or.inr (Or.inl rfl))]) (ty := .byte) rfl hv hd kk
  · exact va_alen hC.1 hC.2.1 hK.1 hH.1 (r - 1) 2 (x := (n, .inl (pw_I w r))) (by rw [px_ws_at h1 h2, px_e_a hs (Or.inr (Or.inr rfl))]) (ty := .boolean) rfl hv hd kk
theorem px_llen {r n : Nat} {v : Int32} (hd : decode mt.2.1 pc = .ok (.arraylength, 1)) (hs : pw_sh w r = (103, n)) (hv : nI n = v) (kk : px_W E mt d rc rs (pc + 1) ls (.int v :: st) w Q) : px_W E mt d rc rs pc ls (.ref r :: st) w Q := by
  refine px_read (fun p e R s m args below meth c Z H locs cells slots lsA hC hK hH hlo kk => ?_) kk
  obtain ⟨h1, h2⟩ := hH.2.2.2.2 r (by rw [hs]; omega)
  exact va_alen hC.1 hC.2.1 hK.1 hH.1 (r - 1) 3 (x := (n, .inr (.inl (pw_L w r)))) (by rw [px_ws_at h1 h2, px_e_l hs]) (ty := .long) rfl hv hd kk
theorem px_aset {t n r j : Nat} {x : Int32} (hs : pw_sh w r = (t, n)) (ht : t = 100 ∨ t = 101 ∨ t = 102) (h1 : 1 ≤ r) : (px_ws E w).set (r - 1) (px_ad E r, .inl (px_cA E (t - 100), n, .inl (upd (pw_I w r) j x))) = px_ws E (pw_sI w r j x) := by
  rw [← px_sI_row, ← px_e_a (E := E) (w := pw_sI w r j x) (r := r) hs ht]
  exact px_ws_set h1 rfl px_o_sI
theorem px_iast {r n : Nat} {i x : Int32} (hd : decode mt.2.1 pc = .ok (.iastore, 1)) (hs : pw_sh w r = (100, n)) (hn : n < 2 ^ 31) (j : Nat) (hi : i = nI j) (hj : j < n) (hd1 : 1 ≤ d) (kk : px_W E mt d rc rs (pc + 1) ls st (pw_sI w r j x) Q) : px_W E mt d rc rs pc ls (.int x :: .int i :: .ref r :: st) w Q := by
  obtain ⟨q1, q2⟩ := px_nIin hi hj hn
  refine px_write (w' := pw_sI w r j x) rfl (fun p e R s m args below meth c Z H locs cells slots lsA hC hK _ _ _ _ hH hlo kk => ?_) hd1 kk
  obtain ⟨h1, h2⟩ := hH.2.2.2.2 r (by rw [hs]; omega)
  exact va_iast hC.1 hC.2.1 hK.1 hH.1 (px_Dd hK hH.2.2.2.1) (px_S hH hlo) (r - 1) 0 (by rw [px_ws_at h1 h2, px_e_a hs (Or.inl rfl)]) rfl q1 hd (fun H1 locs1 hP _ hS => kk H1 locs1 (hH.step hP (by rw [q2]; exact px_aset hs (Or.inl rfl) h1) hS rfl (fun _ => rfl)))
theorem px_bast {r n : Nat} {i x : Int32} (hd : decode mt.2.1 pc = .ok (.bastore, 1)) (hs : pw_sh w r = (101, n)) (hn : n < 2 ^ 31) (j : Nat) (hi : i = nI j) (hj : j < n) (hd1 : 1 ≤ d) (kk : px_W E mt d rc rs (pc + 1) ls st (pw_sI w r j (js_i2b x)) Q) : px_W E mt d rc rs pc ls (.int x :: .int i :: .ref r :: st) w Q := by
  obtain ⟨q1, q2⟩ := px_nIin hi hj hn
  refine px_write (w' := pw_sI w r j (js_i2b x)) rfl (fun p e R s m args below meth c Z H locs cells slots lsA hC hK _ _ _ _ hH hlo kk => ?_) hd1 kk
  obtain ⟨h1, h2⟩ := hH.2.2.2.2 r (by rw [hs]; omega)
  exact va_bast hC.1 hC.2.1 hK.1 hH.1 (px_Dd hK hH.2.2.2.1) (px_S hH hlo) (r - 1) 1 (by rw [px_ws_at h1 h2, px_e_a hs (Or.inr (Or.inl rfl))]) rfl q1 hd (fun H1 locs1 hP _ hS => kk H1 locs1 (hH.step hP (by rw [q2, vp_nar_byte]; exact px_aset hs (Or.inr (Or.inl rfl)) h1) hS rfl (fun _ => rfl)))
theorem px_zast {r n : Nat} {i x : Int32} (hd : decode mt.2.1 pc = .ok (.bastore, 1)) (hs : pw_sh w r = (102, n)) (hn : n < 2 ^ 31) (j : Nat) (hi : i = nI j) (hj : j < n) (hx : vp_nar .boolean x = x) (hd1 : 1 ≤ d) (kk : px_W E mt d rc rs (pc + 1) ls st (pw_sI w r j x) Q) : px_W E mt d rc rs pc ls (.int x :: .int i :: .ref r :: st) w Q := by
  obtain ⟨q1, q2⟩ := px_nIin hi hj hn
  refine px_write (w' := pw_sI w r j x) rfl (fun p e R s m args below meth c Z H locs cells slots lsA hC hK _ _ _ _ hH hlo kk => ?_) hd1 kk
  obtain ⟨h1, h2⟩ := hH.2.2.2.2 r (by rw [hs]; omega)
  exact va_zast hC.1 hC.2.1 hK.1 hH.1 (px_Dd hK hH.2.2.2.1) (px_S hH hlo) (r - 1) 2 (by rw [px_ws_at h1 h2, px_e_a hs (Or.inr (Or.inr rfl))]) rfl q1 hd (fun H1 locs1 hP _ hS => kk H1 locs1 (hH.step hP (by rw [q2, hx]; exact px_aset hs (Or.inr (Or.inr rfl)) h1) hS rfl (fun _ => rfl)))
theorem px_last {r n : Nat} {i : Int32} {x : Int64} (hd : decode mt.2.1 pc = .ok (.lastore, 1)) (hs : pw_sh w r = (103, n)) (hn : n < 2 ^ 31) (j : Nat) (hi : i = nI j) (hj : j < n) (hd1 : 1 ≤ d) (kk : px_W E mt d rc rs (pc + 1) ls st (pw_sL w r j x) Q) : px_W E mt d rc rs pc ls (.long x :: .int i :: .ref r :: st) w Q := by
  obtain ⟨q1, q2⟩ := px_nIin hi hj hn
  refine px_write (w' := pw_sL w r j x) rfl (fun p e R s m args below meth c Z H locs cells slots lsA hC hK _ _ _ _ hH hlo kk => ?_) hd1 kk
  obtain ⟨h1, h2⟩ := hH.2.2.2.2 r (by rw [hs]; omega)
  refine va_last hC.1 hC.2.1 hK.1 hH.1 (px_Dd hK hH.2.2.2.1) (px_S hH hlo) (r - 1) 3 (by rw [px_ws_at h1 h2, px_e_l hs]) rfl q1 hd (fun H1 locs1 hP _ hS => kk H1 locs1 (hH.step hP ?_ hS rfl (fun _ => rfl)))
  rw [q2, ← px_sL_row, ← px_e_l (E := E) (w := pw_sL w r j x) (r := r) hs]
  exact px_ws_set h1 rfl px_o_sL
/-- System.arraycopy of ints -/
theorem px_copy {idx a b n0 n1 : Nat} {sp dp n : Int32} (hd : decode mt.2.1 pc = .ok (.invokestatic idx, 3)) (hl : Cond.methodLink mt.1.cls idx arraycopyName ∈ lw_gd) (ha : pw_sh w a = (100, n0)) (hb : pw_sh w b = (100, n1)) (hn0 : n0 < 2 ^ 31) (hn1 : n1 < 2 ^ 31) (i j k : Nat) (hi : sp = nI i) (hj : dp = nI j) (hk : n = nI k) (h0 : i + k ≤ n0) (h1 : j + k ≤ n1) (hst : (st.map fun v => v.category).sum ≤ 8) (hd1 : 1 ≤ d)
    (kk : px_W E mt d rc rs (pc + 3) ls st (pw_sA w b (va_cpy (pw_I w a) (pw_I w b) i j k)) Q) : px_W E mt d rc rs pc ls (.int n :: .int dp :: .ref b :: .int sp :: .ref a :: st) w Q := by
  subst hi; subst hj; subst hk
  refine px_write (w' := pw_sA w b (va_cpy (pw_I w a) (pw_I w b) i j k)) rfl (fun p e R s m args below meth c Z H locs cells slots lsA hC hK _ hd3 hd4 hL hH hlo kk => ?_) hd1 kk
  obtain ⟨r1, r2⟩ := hH.2.2.2.2 a (by rw [ha]; omega)
  obtain ⟨r3, r4⟩ := hH.2.2.2.2 b (by rw [hb]; omega)
  refine va_copyi hC.1 hC.2.1 (hC.2.2.1.trans hL.1.symm) hC.2.2.2.2.1 (hC.2.2.2.2.2.1 _ hl) (hC.2.2.2.2.2.1 (.native arraycopyName) (by decide +kernel)) (hC.2.2.2.2.2.1 (.static arraycopyName) (by decide +kernel)) (hC.2.2.2.2.2.1 (.initialized "java/lang/System") (by decide +kernel)) hK.1 hH.1 (px_Dd hK hH.2.2.2.1) (px_S hH hlo) (a - 1) (b - 1) 0 0 (by rw [px_ws_at r1 r2, px_e_a ha (Or.inl rfl)]) (by rw [px_ws_at r3 r4, px_e_a hb (Or.inl rfl)]) (ty := .int) rfl rfl rfl (nI_pos (by omega)) (nI_pos (by omega)) (nI_pos (by omega)) (by rw [nI_clamp (by omega), nI_clamp (by omega)]; exact h0) (by rw [nI_clamp (by omega), nI_clamp (by omega)]; exact h1) (fun _ _ => rfl) (by omega) ?_ hd (fun H1 locs1 hP _ hS => kk H1 locs1 (hH.step hP ?_ hS rfl (fun _ => rfl)))
  · have e : (List.map (fun v : Value => v.category) (st.map (px_v E))).sum = (st.map fun v => v.category).sum := by
      rw [List.map_map]
      congr 1
      exact List.map_congr_left (fun v _ => px_vcat)
    have e2 : nativeFrameWords "java/lang/System" "arraycopy" 5 + 11 ≤ 90 := by decide +kernel
    rw [e]
    omega
  · rw [nI_clamp (by omega), nI_clamp (by omega), nI_clamp (by omega)]
    have e := px_ws_set (E := E) (w := w) (w' := pw_sA w b (va_cpy (pw_I w a) (pw_I w b) i j k)) r3 rfl px_o_sA
    rw [px_e_a (E := E) (w := pw_sA w b (va_cpy (pw_I w a) (pw_I w b) i j k)) (r := b) hb (Or.inl rfl), px_sA_row] at e
    exact e
end PWR
