def js_max (x y : Int32) : Int32 := if x < y then y else x
def js_min (x y : Int32) : Int32 := if y < x then y else x
theorem mm_max : Cond.static Lib.Math.max.name ∈ lw_gd ∧ Cond.initialized "java/lang/Math" ∈ lw_gd ∧ Cond.code Lib.Math.max.name Lib.Math.max.code 2 (some .int) ∈ lw_gd := ⟨(px_in3 50 rfl rfl), (px_in1 16 rfl rfl), (px_in3 51 rfl rfl)⟩
theorem mm_min : Cond.static Lib.Math.min.name ∈ lw_gd ∧ Cond.initialized "java/lang/Math" ∈ lw_gd ∧ Cond.code Lib.Math.min.name Lib.Math.min.code 2 (some .int) ∈ lw_gd := ⟨(px_in3 15 rfl rfl), (px_in1 16 rfl rfl), (px_in3 16 rfl rfl)⟩
section PWR
variable {E : px_E} {mt : pm_T} {d rc rs pc : Nat} {ls st : List Value} {w : pw_W} {Q : Option Value → pw_W → Prop}
theorem px_mmax {idx : Nat} {x y : Int32} (hd : decode mt.2.1 pc = .ok (.invokestatic idx, 3)) (hl : Cond.methodLink mt.1.cls idx Lib.Math.max.name ∈ lw_gd) (hst : (st.map fun v => v.category).sum ≤ 8) (hd1 : 1 ≤ d) (k : px_W E mt d rc rs (pc + 3) ls (.int (js_max x y) :: st) w Q) : px_W E mt d rc rs pc ls (.int y :: .int x :: st) w Q := by
  intro p e R s m args below meth c Z cx H locs cells slots lsA hC hK hx hH hlo hL hR
  have hts := hC.2.2.2.2.2.1
  have h8 := px_cats (E := E) hst
  exact va_mmax hC.1 hC.2.1 (hC.2.2.1.trans hL.1.symm) hC.2.2.2.2.1 (hts _ hl) (hts _ mm_max.1) (hts _ mm_max.2.1) (hts _ mm_max.2.2) (by omega) (by omega) (by omega) (by omega) hd (k p e R s m args below meth c Z cx H locs cells slots lsA hC hK hx hH hlo hL hR)
theorem px_mmin {idx : Nat} {x y : Int32} (hd : decode mt.2.1 pc = .ok (.invokestatic idx, 3)) (hl : Cond.methodLink mt.1.cls idx Lib.Math.min.name ∈ lw_gd) (hst : (st.map fun v => v.category).sum ≤ 8) (hd1 : 1 ≤ d) (k : px_W E mt d rc rs (pc + 3) ls (.int (js_min x y) :: st) w Q) : px_W E mt d rc rs pc ls (.int y :: .int x :: st) w Q := by
  intro p e R s m args below meth c Z cx H locs cells slots lsA hC hK hx hH hlo hL hR
  have hts := hC.2.2.2.2.2.1
  have h8 := px_cats (E := E) hst
  exact va_mmin hC.1 hC.2.1 (hC.2.2.1.trans hL.1.symm) hC.2.2.2.2.1 (hts _ hl) (hts _ mm_min.1) (hts _ mm_min.2.1) (hts _ mm_min.2.2) (by omega) (by omega) (by omega) (by omega) hd (k p e R s m args below meth c Z cx H locs cells slots lsA hC hK hx hH hlo hL hR)
end PWR
theorem hI {w : pw_W} {r k : Nat} {v : Int32} {c : pw_C} (h : w.1 = c) : (pw_sI w r k v).1 = c := h
theorem hL {w : pw_W} {r k : Nat} {v : Int64} {c : pw_C} (h : w.1 = c) : (pw_sL w r k v).1 = c := h
theorem hA {w : pw_W} {r : Nat} {f : Nat → Int32} {c : pw_C} (h : w.1 = c) : (pw_sA w r f).1 = c := h
section PWR
variable {E : px_E} {mt : pm_T} {d rc rs pc : Nat} {ls st : List Value} {w : pw_W} {Q : Option Value → pw_W → Prop}
theorem px_getIv {r idx ci k : Nat} {v : Int32} (hd : decode mt.2.1 pc = .ok (.getfield idx, 3)) (hf : px_flr mt.1.cls idx ci k) (hty : px_ki (px_ty ci k) = true) (hs : (pw_sh w r).1 = ci) (hv : pw_I w r k = v) (kk : px_W E mt d rc rs (pc + 3) ls (.int v :: st) w Q) : px_W E mt d rc rs pc ls (.ref r :: st) w Q := px_getI hd hf hty hs (by rw [hv]; exact kk)
theorem px_getLv {r idx ci k : Nat} {v : Int64} (hd : decode mt.2.1 pc = .ok (.getfield idx, 3)) (hf : px_flr mt.1.cls idx ci k) (hty : px_ty ci k = .long) (hs : (pw_sh w r).1 = ci) (hv : pw_L w r k = v) (kk : px_W E mt d rc rs (pc + 3) ls (.long v :: st) w Q) : px_W E mt d rc rs pc ls (.ref r :: st) w Q := px_getL hd hf hty hs (by rw [hv]; exact kk)
theorem px_ialdv {r n : Nat} {i : Int32} {v : Int32} (hd : decode mt.2.1 pc = .ok (.iaload, 1)) (hs : pw_sh w r = (100, n)) (hn : n < 2 ^ 31) (j : Nat) (hi : i = nI j) (hj : j < n) (hv : pw_I w r j = v) (kk : px_W E mt d rc rs (pc + 1) ls (.int v :: st) w Q) : px_W E mt d rc rs pc ls (.int i :: .ref r :: st) w Q := px_iald hd hs hn j hi hj (by rw [hv]; exact kk)
theorem px_baldv {r n : Nat} {i : Int32} {v : Int32} (hd : decode mt.2.1 pc = .ok (.baload, 1)) (hs : pw_sh w r = (101, n)) (hn : n < 2 ^ 31) (j : Nat) (hi : i = nI j) (hj : j < n) (hv : pw_I w r j = v) (kk : px_W E mt d rc rs (pc + 1) ls (.int v :: st) w Q) : px_W E mt d rc rs pc ls (.int i :: .ref r :: st) w Q := px_bald hd hs hn j hi hj (by rw [hv]; exact kk)
theorem px_zaldv {r n : Nat} {i : Int32} {v : Int32} (hd : decode mt.2.1 pc = .ok (.baload, 1)) (hs : pw_sh w r = (102, n)) (hn : n < 2 ^ 31) (j : Nat) (hi : i = nI j) (hj : j < n) (hv : pw_I w r j = v) (kk : px_W E mt d rc rs (pc + 1) ls (.int v :: st) w Q) : px_W E mt d rc rs pc ls (.int i :: .ref r :: st) w Q := px_zald hd hs hn j hi hj (by rw [hv]; exact kk)
theorem px_laldv {r n : Nat} {i : Int32} {v : Int64} (hd : decode mt.2.1 pc = .ok (.laload, 1)) (hs : pw_sh w r = (103, n)) (hn : n < 2 ^ 31) (j : Nat) (hi : i = nI j) (hj : j < n) (hv : pw_L w r j = v) (kk : px_W E mt d rc rs (pc + 1) ls (.long v :: st) w Q) : px_W E mt d rc rs pc ls (.int i :: .ref r :: st) w Q := px_lald hd hs hn j hi hj (by rw [hv]; exact kk)
end PWR
