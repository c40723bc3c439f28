/-! returns, making, calls, the entry -/
theorem lw_good : ∀ w ∈ lw_gd, (w.onTables && w.keeps) = true ∨ ∃ ty, w = .arrayClass ty := fun w hw => good_of_word (List.mem_filter.mp hw).2
theorem px_goodIn {mt : pm_T} (h : Cond.code mt.1 mt.2.1 mt.2.2.1 mt.2.2.2 ∈ lw_gd) : GoodIn lw_gd (px_ws0 mt) := by
  intro w hw
  rcases List.mem_cons.mp hw with rfl | hw
  · exact ⟨h, lw_good _ h⟩
  · exact ⟨hw, lw_good _ hw⟩
theorem px_cats {E : px_E} {st : List Value} (h : (st.map fun v => v.category).sum ≤ 8) : ((st.map (px_v E)).map fun v => v.category).sum ≤ 8 := by
  rw [List.map_map]
  have e : List.map ((fun v : Value => v.category) ∘ px_v E) st = st.map fun v => v.category := List.map_congr_left (fun v _ => px_vcat)
  rw [e]
  exact h
theorem px_Pc_blind {E : px_E} {as : List Value} {w : pw_W} : FrameBlind (px_Pc E as w) := fun a U g mk q => ⟨q.1, px_K.same (u := U) (U := U.calling g mk a) rfl q.2.1, q.2.2⟩
def px_lk (own : String) (idx : Nat) (mt : pm_T) (n : Nat) : Prop := Cond.code mt.1 mt.2.1 mt.2.2.1 mt.2.2.2 ∈ lw_gd ∧ Cond.initialized mt.1.cls ∈ lw_gd ∧ (mt.1.cls ≠ "java/lang/invoke/MethodHandle" ∧ mt.1.cls ≠ "java/lang/invoke/VarHandle" ∧ (parseMethodDescriptor mt.1.desc).map (fun d => d.parameters.length) = some n) ∧ mt.2.2.1 ≤ 80
def px_lkV (own : String) (idx : Nat) (mt : pm_T) (ci n : Nat) : Prop := px_lk own idx mt n ∧ Cond.methodLink own idx mt.1 ∈ lw_gd ∧ Cond.instanceMethod mt.1 ∈ lw_gd ∧ Cond.selects mt.1.cls mt.1 mt.1 ∈ lw_gd ∧ ci < 100 ∧ ∃ T N, vwCl[ci]? = some (mt.1.cls, T, N)
def px_lkS (own : String) (idx : Nat) (mt : pm_T) (n : Nat) : Prop := px_lk own idx mt n ∧ Cond.methodLink own idx mt.1 ∈ lw_gd ∧ Cond.static mt.1 ∈ lw_gd
def px_lkI (own : String) (idx : Nat) (mt : pm_T) (n : Nat) : Prop := px_lk own idx mt n ∧ Cond.methodLink own idx mt.1 ∈ lw_gd ∧ Cond.instanceMethod mt.1 ∈ lw_gd ∧ mt.1.name = "<init>" ∧ mt.2.2.2 = none
def px_lkN (own : String) (idx : Nat) (mt : pm_T) (n : Nat) : Prop := px_lk own idx mt n ∧ (∃ host, Cond.methodLinkNest own idx mt.1 host ∈ px_nest) ∧ Cond.instanceMethod mt.1 ∈ lw_gd ∧ mt.1.name = "<init>" ∧ mt.2.2.2 = none
section PWR
variable {E : px_E} {mt : pm_T} {d rc rs pc : Nat} {ls st : List Value} {w : pw_W} {Q : Option Value → pw_W → Prop}
theorem px_ireturn {v : Int32} {ty : FieldType} (hd : decode mt.2.1 pc = .ok (.ireturn, 1)) (hr : mt.2.2.2 = some ty) (hn : narrow ty (.int v) = .int v) (h : Q (some (.int v)) w) : px_W E mt d 0 rs pc ls [.int v] w Q := by
  intro p e R s m args below meth c Z cx H locs cells slots lsA hC hK hx hH hl hL hR
  have hcx : cells = cx := hx.2.2.2.1
  subst hcx
  exact hR (some (.int v)) w pc lsA [.int v] H locs slots h (Or.inl ⟨v, hd, rfl, rfl, ty, hr, hn⟩) (Nat.le_trans (Nat.le_add_right _ _) hx.2.2.2.2.1) hH hl hx.2.2.2.2.2
theorem px_return (hd : decode mt.2.1 pc = .ok (.return_, 1)) (hr : mt.2.2.2 = none) (h : Q none w) : px_W E mt d 0 rs pc ls [] w Q := by
  intro p e R s m args below meth c Z cx H locs cells slots lsA hC hK hx hH hl hL hR
  have hcx : cells = cx := hx.2.2.2.1
  subst hcx
  exact hR none w pc lsA [] H locs slots h (Or.inr (Or.inl ⟨hd, rfl, rfl, hr⟩)) (Nat.le_trans (Nat.le_add_right _ _) hx.2.2.2.2.1) hH hl hx.2.2.2.2.2
theorem px_lreturn {v : Int64} (hd : decode mt.2.1 pc = .ok (.lreturn, 1)) (hr : mt.2.2.2 = some .long) (h : Q (some (.long v)) w) : px_W E mt d 0 rs pc ls [.long v] w Q := by
  intro p e R s m args below meth c Z cx H locs cells slots lsA hC hK hx hH hl hL hR
  have hcx : cells = cx := hx.2.2.2.1
  subst hcx
  exact hR (some (.long v)) w pc lsA [.long v] H locs slots h (Or.inr (Or.inr (Or.inl ⟨v, hd, rfl, rfl, hr⟩))) (Nat.le_trans (Nat.le_add_right _ _) hx.2.2.2.2.1) hH hl hx.2.2.2.2.2
theorem px_areturn {v : Nat} {n : String} (hd : decode mt.2.1 pc = .ok (.areturn, 1)) (hr : mt.2.2.2 = some (.object n)) (h : Q (some (.ref v)) w) : px_W E mt d 0 rs pc ls [.ref v] w Q := by
  intro p e R s m args below meth c Z cx H locs cells slots lsA hC hK hx hH hl hL hR
  have hcx : cells = cx := hx.2.2.2.1
  subst hcx
  exact hR (some (.ref v)) w pc lsA [.ref v] H locs slots h (Or.inr (Or.inr (Or.inr ⟨v, hd, rfl, rfl, n, hr⟩))) (Nat.le_trans (Nat.le_add_right _ _) hx.2.2.2.2.1) hH hl hx.2.2.2.2.2
/-- behind any call -/
theorem px_after {mc ms : Nat} {st0 : List Value} {Qa : Array Value}
    (h : ∀ (p : Program) (e : Env) (R : Room) (s : State) (m : MethodId) (args : Array Value) (below : List Frame) (meth : Method) (c : Code) (H : Heap) (locs : List Loc) (cells slots : Nat) (lsA : Array Slot), px_C mt p s m args meth c → px_K E s → d + 1 ≤ R.frames → 100 * (d + 1) ≤ R.locals → cells + mc ≤ R.cells → slots + ms ≤ R.slots → lsA.size = mt.2.2.1 → px_H E w H → H.size = (px_H0 E).size + w.1.1 →
      va_Run p (px_l E) e R s m args below meth c H locs cells slots mc ms (F0 m pc lsA (st0.map (px_v E))) (st.map (px_v E)) (px_Qc E mc (fun v w' => px_W E mt (d + 1) rc rs (pc + 3) ls (v.toList ++ st) w' Q) Qa) (px_A E)) : px_W E mt (d + 1) (mc + rc) (ms + rs) pc ls st0 w Q := by
  intro p e R s m args below meth c Z cx H locs cells slots lsA hC hK hx hH hl hL hR T hT X
  have hsz : H.size = (px_H0 E).size + w.1.1 := by
    have h1 := hH.low hK
    have h2 := X.heapSize
    rw [hT] at h2
    omega
  obtain ⟨v, st₀, t, T', L, h0, X', hLo, e1, e2, ⟨r, w', hv, hq, hH', hz⟩, hg⟩ := h p e R s m args below meth c H locs cells slots lsA hC hK hx.1 hx.2.1 (by omega) (by omega) hL.1 hH hsz T hT X
  have hv' : v = r.map (px_v E) := Outcome.returned.inj hv
  subst hv'
  rw [h0] at hz
  have hst : (r.map (px_v E)).toList ++ st.map (px_v E) = (r.toList ++ st).map (px_v E) := by cases r <;> rfl
  have kk := hq p e R s m args below meth c Z cx t.heap (locs ++ L) (cells + mc) (slots + ms) lsA hC hK ⟨hx.1, hx.2.1, hx.2.2.1, by omega, by omega, by omega⟩ hH' (fun q hq2 => (List.mem_append.mp hq2).elim (hl q) (hLo q)) hL hR T' e1 X'
  obtain ⟨t2, a1, b1⟩ := kk
  refine ⟨t2, hg t2 ?_, b1⟩
  rw [← hst] at a1
  exact a1
theorem px_callV {mt' : pm_T} {idx r ci n mc ms : Nat} {As : List Value} {st0 : List Value} (hd : decode mt.2.1 pc = .ok (.invokevirtual idx, 3)) (hk : px_lkV mt.1.cls idx mt' ci n) (hs : (pw_sh w r).1 = ci) (h0 : st0 = As.reverse ++ .ref r :: st) (hn : As.length = n) (hst : (st.map fun v => v.category).sum ≤ 8)
    (hC : px_Call E d mc ms mt' (.ref r :: As) w (fun v w' => px_W E mt (d + 1) rc rs (pc + 3) ls (v.toList ++ st) w' Q)) : px_W E mt (d + 1) (mc + rc) (ms + rs) pc ls st0 w Q := by
  obtain ⟨⟨k1, k2, k3, k4⟩, k5, k6, k7, k8, T, N, k9⟩ := hk
  subst h0
  refine px_after (st := st) (Qa := (Value.ref (px_ad E r) :: As.map (px_v E)).toArray) (fun p e R s m args below meth c H locs cells slots lsA hc hK hf hl hcc hss hLs hH hsz => ?_)
  have hts := hc.2.2.2.2.2.1
  obtain ⟨h1, h2⟩ := hH.2.2.2.2 r (by rw [hs]; omega)
  refine va_runV (As := As.map (px_v E)) (rest := st.map (px_v E)) (Ts := lw_gd) (own := mt.1.cls) (nL := mt.2.2.1) (C := mt'.1.cls) (bytes := mt'.2.1) (maxL := mt'.2.2.1) (ret := mt'.2.2.2) ⟨hc.1, hc.2.1, hc.2.2.1, hc.2.2.2.2.1, hts⟩ hC ⟨callB_of n hts (px_goodIn k1) rfl rfl rfl (hts _ k2) (hts _ k5) k3 ⟨?_, ?_⟩, hts _ k6, hts _ k7⟩ ⟨px_Pc_blind, va_recv hK.1 hH.1 k9 (by rw [px_ws_at h1 h2, px_e_o hs k8]), fun U hU hW => ⟨rfl, px_K.warm hW hK, by rw [hU]; exact hH, by rw [hU]; exact hsz⟩⟩ rfl (by rw [List.length_map]; exact hn) hLs ?_ (lv_room (px_cats hst)) hd ⟨hcc, hss⟩
  · exact hf
  · show 8 + (mt'.2.2.1 + 11) + 100 * d ≤ R.locals
    omega
  · show List.map (px_v E) (As.reverse ++ .ref r :: st) = _
    rw [List.map_append, List.map_reverse]
    rfl
theorem px_callS {mt' : pm_T} {idx n mc ms : Nat} {As : List Value} {st0 : List Value} (hd : decode mt.2.1 pc = .ok (.invokestatic idx, 3)) (hk : px_lkS mt.1.cls idx mt' n) (h0 : st0 = As.reverse ++ st) (hn : As.length = n) (hst : (st.map fun v => v.category).sum ≤ 8)
    (hC : px_Call E d mc ms mt' As w (fun v w' => px_W E mt (d + 1) rc rs (pc + 3) ls (v.toList ++ st) w' Q)) : px_W E mt (d + 1) (mc + rc) (ms + rs) pc ls st0 w Q := by
  obtain ⟨⟨k1, k2, k3, k4⟩, k5, k6⟩ := hk
  subst h0
  refine px_after (st := st) (Qa := (As.map (px_v E)).toArray) (fun p e R s m args below meth c H locs cells slots lsA hc hK hf hl hcc hss hLs hH hsz => ?_)
  have hts := hc.2.2.2.2.2.1
  refine va_runS (As := As.map (px_v E)) (rest := st.map (px_v E)) (Ts := lw_gd) (own := mt.1.cls) (nL := mt.2.2.1) (bytes := mt'.2.1) (maxL := mt'.2.2.1) (ret := mt'.2.2.2) ⟨hc.1, hc.2.1, hc.2.2.1, hc.2.2.2.2.1, hts⟩ hC ⟨callB_of n hts (px_goodIn k1) rfl rfl rfl (hts _ k2) (hts _ k5) k3 ⟨?_, ?_⟩, hts _ k6⟩ ⟨px_Pc_blind, fun U hU hW => ⟨rfl, px_K.warm hW hK, by rw [hU]; exact hH, by rw [hU]; exact hsz⟩⟩ rfl (by rw [List.length_map]; exact hn) hLs ?_ (lv_room (px_cats hst)) hd ⟨hcc, hss⟩
  · exact hf
  · show 8 + (mt'.2.2.1 + 11) + 100 * d ≤ R.locals
    omega
  · show List.map (px_v E) (As.reverse ++ st) = _
    rw [List.map_append, List.map_reverse]
theorem px_callI {mt' : pm_T} {idx r n mc ms : Nat} {As : List Value} {st0 : List Value} (hd : decode mt.2.1 pc = .ok (.invokespecial idx, 3)) (hk : px_lkI mt.1.cls idx mt' n) (h0 : st0 = As.reverse ++ .ref r :: st) (hn : As.length = n) (hst : (st.map fun v => v.category).sum ≤ 8)
    (hC : px_Call E d mc ms mt' (.ref r :: As) w (fun v w' => px_W E mt (d + 1) rc rs (pc + 3) ls (v.toList ++ st) w' Q)) : px_W E mt (d + 1) (mc + rc) (ms + rs) pc ls st0 w Q := by
  obtain ⟨⟨k1, k2, k3, k4⟩, k5, k6, k7, k8⟩ := hk
  subst h0
  refine px_after (st := st) (Qa := (Value.ref (px_ad E r) :: As.map (px_v E)).toArray) (fun p e R s m args below meth c H locs cells slots lsA hc hK hf hl hcc hss hLs hH hsz => ?_)
  have hts := hc.2.2.2.2.2.1
  have hws : px_ws0 mt' = Cond.code mt'.1 mt'.2.1 mt'.2.2.1 none :: lw_gd := by rw [← k8]; rfl
  refine va_runI (As := As.map (px_v E)) (rest := st.map (px_v E)) (Ts := lw_gd) (own := mt.1.cls) (nL := mt.2.2.1) (bytes := mt'.2.1) (maxL := mt'.2.2.1) ⟨hc.1, hc.2.1, hc.2.2.1, hc.2.2.2.2.1, hts⟩ hC ⟨callB_of n hts (px_goodIn k1) hws rfl rfl (hts _ k2) (hts _ k5) k3 ⟨?_, ?_⟩, k7, hts _ k6⟩ ⟨px_Pc_blind, fun U hU hW => ⟨rfl, px_K.warm hW hK, by rw [hU]; exact hH, by rw [hU]; exact hsz⟩⟩ rfl (by rw [List.length_map]; exact hn) hLs ?_ (lv_room (px_cats hst)) hd ⟨hcc, hss⟩
  · exact hf
  · show 8 + (mt'.2.2.1 + 11) + 100 * d ≤ R.locals
    omega
  · show List.map (px_v E) (As.reverse ++ .ref r :: st) = _
    rw [List.map_append, List.map_reverse]
    rfl
theorem px_callN {mt' : pm_T} {idx r n mc ms : Nat} {As : List Value} {st0 : List Value} (hd : decode mt.2.1 pc = .ok (.invokespecial idx, 3)) (hk : px_lkN mt.1.cls idx mt' n) (h0 : st0 = As.reverse ++ .ref r :: st) (hn : As.length = n) (hst : (st.map fun v => v.category).sum ≤ 8)
    (hC : px_Call E d mc ms mt' (.ref r :: As) w (fun v w' => px_W E mt (d + 1) rc rs (pc + 3) ls (v.toList ++ st) w' Q)) : px_W E mt (d + 1) (mc + rc) (ms + rs) pc ls st0 w Q := by
  obtain ⟨⟨k1, k2, k3, k4⟩, ⟨host, k5⟩, k6, k7, k8⟩ := hk
  subst h0
  refine px_after (st := st) (Qa := (Value.ref (px_ad E r) :: As.map (px_v E)).toArray) (fun p e R s m args below meth c H locs cells slots lsA hc hK hf hl hcc hss hLs hH hsz => ?_)
  have hts := hc.2.2.2.2.2.1
  have hws : px_ws0 mt' = Cond.code mt'.1 mt'.2.1 mt'.2.2.1 none :: lw_gd := by rw [← k8]; rfl
  refine va_runIN (As := As.map (px_v E)) (rest := st.map (px_v E)) (Ts := lw_gd) (own := mt.1.cls) (host := host) (nL := mt.2.2.1) (bytes := mt'.2.1) (maxL := mt'.2.2.1) ⟨hc.1, hc.2.1, hc.2.2.1, hc.2.2.2.2.1, hts⟩ hC ⟨va_cnB n hts (px_goodIn k1) hws rfl rfl ?_ (hts _ k2) k3 ⟨?_, ?_⟩, k7, hts _ k6⟩ ⟨px_Pc_blind, fun U hU hW => ⟨rfl, px_K.warm hW hK, by rw [hU]; exact hH, by rw [hU]; exact hsz⟩⟩ rfl (by rw [List.length_map]; exact hn) hLs ?_ (lv_room (px_cats hst)) hd ⟨hcc, hss⟩
  · exact hK.2.2.2.2.1 _ k5
  · exact hf
  · show 8 + (mt'.2.2.1 + 11) + 100 * d ≤ R.locals
    omega
  · show List.map (px_v E) (As.reverse ++ .ref r :: st) = _
    rw [List.map_append, List.map_reverse]
    rfl
end PWR
/-! the entry -/
def px_ex : List Value → List Value
  | [] => []
  | v :: vs => if v.category = 2 then v :: .null :: px_ex vs else v :: px_ex vs
theorem px_ex_spec {E : px_E} {k : Nat} : ∀ (as : List Value) (o i : Nat) (v : Value), (px_ex as ++ List.replicate k Value.null)[i]? = some v → v ≠ .null → (o + i, px_v E v) ∈ lv_args o (as.map (px_v E))
  | [], o, i, v, h, hv => by
    simp only [px_ex, List.nil_append] at h
    have := List.mem_of_getElem? h
    exact absurd (List.eq_of_mem_replicate this) hv
  | a :: as, o, i, v, h, hv => by
    have ih := px_ex_spec (E := E) (k := k) as
    simp only [List.map_cons, lv_args, px_vcat]
    unfold px_ex at h
    by_cases hc : a.category = 2
    · rw [if_pos hc] at h ⊢
      match i, h with
      | 0, h =>
        simp at h
        subst h
        exact List.mem_cons_self
      | 1, h =>
        simp at h
        exact absurd h.symm hv
      | i + 2, h =>
        have h2 := ih (o + 2) i v (by simpa using h) hv
        refine List.mem_cons_of_mem _ ?_
        rw [show o + (i + 2) = o + 2 + i by omega]
        exact h2
    · rw [if_neg hc] at h ⊢
      match i, h with
      | 0, h =>
        simp at h
        subst h
        exact List.mem_cons_self
      | i + 1, h =>
        have h2 := ih (o + 1) i v (by simpa using h) hv
        refine List.mem_cons_of_mem _ ?_
        rw [show o + (i + 1) = o + 1 + i by omega]
        exact h2
theorem px_enL {E : px_E} {as ls : List Value} {n k : Nat} (hl : (lg_sl (as.map (px_v E))).length ≤ n) (hls : px_ex as ++ List.replicate k .null = ls) : px_L E n ((lg_sl (as.map (px_v E)) ++ List.replicate (n - (lg_sl (as.map (px_v E))).length) Slot.unset).toArray) ls := by
  have h := lv_entry (as.map (px_v E)) hl
  refine ⟨h.1, h.2.1, fun i v hi hv => ?_⟩
  subst hls
  have h2 := h.2.2 _ (px_ex_spec (E := E) as 0 i v hi hv)
  simpa using h2
theorem px_sl_len {E : px_E} (as : List Value) : (lg_sl (as.map (px_v E))).length = (as.map fun v => v.category).sum := by
  induction as with
  | nil => rfl
  | cons a as ih =>
    unfold lg_sl at ih ⊢
    rw [List.map_cons, List.flatMap_cons, List.length_append, ih, List.map_cons, List.sum_cons, px_vcat]
    congr 1
    rcases lv_cat a with h | h
    · rw [if_neg (by omega), h]; rfl
    · rw [if_pos h, h]; rfl
/-- a method's contract out of its body -/
theorem px_enter {E : px_E} {mt : pm_T} {d mc ms k : Nat} {as ls : List Value} {w : pw_W} {Q : Option Value → pw_W → Prop} (hy : plainName mt.1.cls = true) (hl : (as.map fun v => v.category).sum ≤ mt.2.2.1) (hls : px_ex as ++ List.replicate k .null = ls) (h : px_W E mt d mc ms 0 ls [] w Q) : px_Call E d mc ms mt as w Q := by
  refine Met.ofW (cc := mt.2.1) (maxL := mt.2.2.1) (ret := mt.2.2.2) hy rfl ?_
  intro p e s m args below meth c s₁ B hml hv
  obtain ⟨rfl, hK, hH, hsz⟩ := hv
  have hts0 := atoms_spec (ws := px_ws0 mt) B.pre
  have hts : ∀ w ∈ lw_gd, w.before (as.map (px_v E)).toArray s = true := fun w hw => hts0 w (List.mem_cons_of_mem _ hw)
  have hC : px_C mt p s m (as.map (px_v E)).toArray meth c := ⟨B.exec, B.bytes, hml, B.returns, findClass_of_methodNamed B.named, hts, (name_of_methodNamed B.named B.method).1⟩
  have hlocks := B.notSynchronized
  rw [lg_entry_eq]
  have hL := px_enL (E := E) (as := as) (ls := ls) (n := mt.2.2.1) (k := k) (by rw [px_sl_len]; exact hl) hls
  refine h p e (px_rm d mc ms) s m _ below meth c _ mc s.heap [] 0 0 _ hC hK ⟨Nat.le_refl _, Nat.le_refl _, Nat.le_refl _, Nat.zero_add _, Nat.le_of_eq (Nat.zero_add _), by rw [hsz]; rfl⟩ hH (fun q h => by cases h) hL ?_
  intro r w' pc lsA st H locs slots hq hra hsl hH' hlo hz
  have hQ : ∀ t : State, t.heap = H → s.WarmedH t.vm → px_Qc E mc Q (as.map (px_v E)).toArray s (.returned (r.map (px_v E))) t := fun t ht _ => ⟨r, w', rfl, hq, by rw [ht]; exact hH', hz⟩
  refine W.widen (k := mc) (n := ms) (Nat.le_refl _) hsl ?_
  rcases hra with ⟨v, e1, rfl, rfl, ty, e2, e3⟩ | ⟨e1, rfl, rfl, e2⟩ | ⟨v, e1, rfl, rfl, e2⟩ | ⟨a, e1, rfl, rfl, n, e2⟩
  · exact W.zret (ty := ty) hC.1 hC.2.1 (hC.2.2.2.1.trans e2) e3 hQ hlo e1
  · exact W.vret hC.1 hC.2.1 (hC.2.2.2.1.trans e2) hQ hlo e1
  · exact W.lret hC.1 hC.2.1 (hC.2.2.2.1.trans e2) hQ hlo e1
  · exact W.aret hC.1 hC.2.1 (hC.2.2.2.1.trans e2) (Or.inl ⟨n, rfl⟩) (Or.inr ⟨_, rfl⟩) hQ hlo e1
