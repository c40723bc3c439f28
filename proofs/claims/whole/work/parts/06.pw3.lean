/-! fields -/
def px_cf (ci : Nat) (C : String) (T : u_T) (N : Nat) : Prop := vwCl[ci]? = some (C, T, N) ∧ px_N ci = N ∧ ci < 100 ∧ (∀ w ∈ u_ws C T N, w ∈ lw_gd) ∧ (∀ k, k < N → parseFieldDescriptor (T k).2.2.1 = some (px_ty ci k)) ∧ (∀ a, a < N → ∀ b, b < N → a ≠ b → (T a).2.1 ≠ (T b).2.1)
theorem px_cf0 : px_cf 0 RX0 TX0 1 := ⟨rfl, rfl, by decide, inX0, tyX0_ok, nmX0⟩
theorem px_cf1 : px_cf 1 RX1 TX1 4 := ⟨rfl, rfl, by decide, inX1, tyX1_ok, nmX1⟩
theorem px_cf2 : px_cf 2 RX2 TX2 16 := ⟨rfl, rfl, by decide, inX2, tyX2_ok, nmX2⟩
theorem px_cf3 : px_cf 3 RX3 TX3 3 := ⟨rfl, rfl, by decide, inX3, tyX3_ok, nmX3⟩
theorem px_cf4 : px_cf 4 RX4 TX4 4 := ⟨rfl, rfl, by decide, inX4, tyX4_ok, nmX4⟩
theorem px_cf5 : px_cf 5 RX5 TX5 7 := ⟨rfl, rfl, by decide, inX5, tyX5_ok, nmX5⟩
theorem px_cf6 : px_cf 6 RX6 TX6 8 := ⟨rfl, rfl, by decide, inX6, tyX6_ok, nmX6⟩
theorem px_cf7 : px_cf 7 RX7 TX7 12 := ⟨rfl, rfl, by decide, inX7, tyX7_ok, nmX7⟩
theorem px_cf8 : px_cf 8 RX8 TX8 5 := ⟨rfl, rfl, by decide, inX8, tyX8_ok, nmX8⟩
theorem px_cf9 : px_cf 9 RX9 TX9 15 := ⟨rfl, rfl, by decide, inX9, tyX9_ok, nmX9⟩
theorem px_cf10 : px_cf 10 RX10 TX10 85 := ⟨rfl, rfl, by decide, inX10, tyX10_ok, nmX10⟩
/-- the pool's entry idx of the own kind is the field k of the kind ci (fin: final) -/
def px_fl (own : String) (idx ci k : Nat) (fin : Bool) : Prop := ∃ (C : String) (T : u_T) (N : Nat), px_cf ci C T N ∧ k < N ∧ Cond.fieldLink own idx (T k).1 (T k).2.1 (T k).2.2.1 ∈ lw_gd ∧ (T k).2.2.2 = fin ∧ (fin = true → (T k).1 = own)
def px_flr (own : String) (idx ci k : Nat) : Prop := ∃ (C : String) (T : u_T) (N : Nat), px_cf ci C T N ∧ k < N ∧ Cond.fieldLink own idx (T k).1 (T k).2.1 (T k).2.2.1 ∈ lw_gd
def px_ki (ty : FieldType) : Bool := match ty with
  | .int => true
  | .boolean => true
  | .byte => true
  | .short => true
  | .char => true
  | _ => false
def px_kr (ty : FieldType) : Bool := match ty with
  | .object _ => true
  | .array _ => true
  | _ => false
theorem px_fv_i {E : px_E} {w : pw_W} {r k : Nat} {ty : FieldType} (h : px_ki ty = true) : px_fv E w r k ty = .int (pw_I w r k) := by
  cases ty <;> first | rfl | (simp [px_ki] at h)
theorem px_fv_r {E : px_E} {w : pw_W} {r k : Nat} {ty : FieldType} (h : px_kr ty = true) : px_fv E w r k ty = if pw_R w r k = 0 then .null else .ref (px_ad E (pw_R w r k)) := by
  cases ty <;> first | rfl | (simp [px_kr] at h)
theorem px_fs_at {E : px_E} {w : pw_W} {r c k : Nat} (h : k < px_N c) : (px_fs E w r c)[k]? = some (px_fv E w r k (px_ty c k)) := by
  unfold px_fs
  rw [List.getElem?_map, List.getElem?_range h]
  rfl
theorem px_e_o {E : px_E} {w : pw_W} {r : Nat} {ci : Nat} (h : (pw_sh w r).1 = ci) (hc : ci < 100) : px_e E w r = .inr (ci, px_fs E w r ci) := by
  unfold px_e
  rw [h, if_pos hc]
/-- a field's list, one anew -/
theorem px_fs_set {E : px_E} {w w' : pw_W} {r c k : Nat} {v : Value} (hk : k < px_N c) (hv : px_fv E w' r k (px_ty c k) = v) (ho : ∀ j, j ≠ k → px_fv E w' r j (px_ty c j) = px_fv E w r j (px_ty c j)) : (px_fs E w r c).set k v = px_fs E w' r c := by
  apply List.ext_getElem?
  intro j
  by_cases hj : j = k
  · subst hj
    rw [List.getElem?_set_self (by simpa [px_fs] using hk), px_fs_at hk, hv]
  · rw [List.getElem?_set_ne (Ne.symm hj)]
    by_cases hl : j < px_N c
    · rw [px_fs_at hl, px_fs_at hl, ho j hj]
    · rw [List.getElem?_eq_none (by simp [px_fs]; omega), List.getElem?_eq_none (by simp [px_fs]; omega)]
theorem px_fv_eq {E : px_E} {w w' : pw_W} {r k : Nat} {ty : FieldType} (h1 : pw_I w' r k = pw_I w r k) (h2 : pw_L w' r k = pw_L w r k) (h3 : pw_R w' r k = pw_R w r k) : px_fv E w' r k ty = px_fv E w r k ty := by
  cases ty <;> simp only [px_fv, h1, h2, h3]
theorem px_e_eq {E : px_E} {w w' : pw_W} {r : Nat} (h0 : pw_sh w' r = pw_sh w r) (h1 : pw_I w' r = pw_I w r) (h2 : pw_L w' r = pw_L w r) (h3 : pw_R w' r = pw_R w r) : px_e E w' r = px_e E w r := by
  have hf : ∀ c, px_fs E w' r c = px_fs E w r c := fun c => by
    unfold px_fs
    exact List.map_congr_left (fun k _ => px_fv_eq (by rw [h1]) (by rw [h2]) (by rw [h3]))
  unfold px_e
  rw [h0, h1, h2, hf]
theorem pw_I_sI {w : pw_W} {r k a b : Nat} {v : Int32} : pw_I (pw_sI w r k v) a b = if a = r ∧ b = k then v else pw_I w a b := rfl
theorem pw_L_sL {w : pw_W} {r k a b : Nat} {v : Int64} : pw_L (pw_sL w r k v) a b = if a = r ∧ b = k then v else pw_L w a b := rfl
theorem pw_R_sR {w : pw_W} {r k a b : Nat} {v : Nat} : pw_R (pw_sR w r k v) a b = if a = r ∧ b = k then v else pw_R w a b := rfl
theorem pw_L_sI {w : pw_W} {r k a b : Nat} {v : Int32} : pw_L (pw_sI w r k v) a b = pw_L w a b := rfl
theorem pw_R_sI {w : pw_W} {r k a b : Nat} {v : Int32} : pw_R (pw_sI w r k v) a b = pw_R w a b := rfl
theorem pw_I_sL {w : pw_W} {r k a b : Nat} {v : Int64} : pw_I (pw_sL w r k v) a b = pw_I w a b := rfl
theorem pw_R_sL {w : pw_W} {r k a b : Nat} {v : Int64} : pw_R (pw_sL w r k v) a b = pw_R w a b := rfl
theorem pw_I_sR {w : pw_W} {r k a b : Nat} {v : Nat} : pw_I (pw_sR w r k v) a b = pw_I w a b := rfl
theorem pw_L_sR {w : pw_W} {r k a b : Nat} {v : Nat} : pw_L (pw_sR w r k v) a b = pw_L w a b := rfl
theorem pw_I_sA {w : pw_W} {r a b : Nat} {f : Nat → Int32} : pw_I (pw_sA w r f) a b = if a = r then f b else pw_I w a b := by
  show (if a = r then f else w.2.1 a) b = _
  by_cases h : a = r
  · rw [if_pos h, if_pos h]
  · rw [if_neg h, if_neg h]; rfl
theorem pw_L_sA {w : pw_W} {r a b : Nat} {f : Nat → Int32} : pw_L (pw_sA w r f) a b = pw_L w a b := rfl
theorem pw_R_sA {w : pw_W} {r a b : Nat} {f : Nat → Int32} : pw_R (pw_sA w r f) a b = pw_R w a b := rfl
theorem px_o_sI {E : px_E} {w : pw_W} {r k : Nat} {v : Int32} (a : Nat) (h : a ≠ r) : px_e E (pw_sI w r k v) a = px_e E w a :=
  px_e_eq rfl (funext fun b => by rw [pw_I_sI, if_neg (fun z => h z.1)]) rfl rfl
theorem px_o_sL {E : px_E} {w : pw_W} {r k : Nat} {v : Int64} (a : Nat) (h : a ≠ r) : px_e E (pw_sL w r k v) a = px_e E w a :=
  px_e_eq rfl rfl (funext fun b => by rw [pw_L_sL, if_neg (fun z => h z.1)]) rfl
theorem px_o_sR {E : px_E} {w : pw_W} {r k : Nat} {v : Nat} (a : Nat) (h : a ≠ r) : px_e E (pw_sR w r k v) a = px_e E w a :=
  px_e_eq rfl rfl rfl (funext fun b => by rw [pw_R_sR, if_neg (fun z => h z.1)])
theorem px_o_sA {E : px_E} {w : pw_W} {r : Nat} {f : Nat → Int32} (a : Nat) (h : a ≠ r) : px_e E (pw_sA w r f) a = px_e E w a :=
  px_e_eq rfl (funext fun b => by rw [pw_I_sA, if_neg h]) rfl rfl
section PWR
variable {E : px_E} {mt : pm_T} {d rc rs pc : Nat} {ls st : List Value} {w : pw_W} {Q : Option Value → pw_W → Prop}
/-- a read: the world stays -/
theorem px_read {pc' : Nat} {st' : List Value}
    (h : ∀ (p : Program) (e : Env) (R : Room) (s : State) (m : MethodId) (args : Array Value) (below : List Frame) (meth : Method) (c : Code) (Z : State → Prop) (H : Heap) (locs : List Loc) (cells slots : Nat) (lsA : Array Slot), px_C mt p s m args meth c → px_K E s → px_H E w H → (∀ q ∈ locs, px_A E q.base) →
      W p (px_l E) e R s m args below meth c H locs cells slots Z (F0 m pc' lsA (st'.map (px_v E))) → W p (px_l E) e R s m args below meth c H locs cells slots Z (F0 m pc lsA (st.map (px_v E))))
    (k : px_W E mt d rc rs pc' ls st' w Q) : px_W E mt d rc rs pc ls st w Q := by
  intro p e R s m args below meth c Z cx H locs cells slots lsA hC hK hn hH hl hL hR
  exact h p e R s m args below meth c Z H locs cells slots lsA hC hK hH hl (k p e R s m args below meth c Z cx H locs cells slots lsA hC hK hn hH hl hL hR)
/-- a write: another world of the same cells -/
theorem px_write {pc' : Nat} {st' : List Value} {w' : pw_W} (hn : w'.1.1 = w.1.1)
    (h : ∀ (p : Program) (e : Env) (R : Room) (s : State) (m : MethodId) (args : Array Value) (below : List Frame) (meth : Method) (c : Code) (Z : State → Prop) (H : Heap) (locs : List Loc) (cells slots : Nat) (lsA : Array Slot), px_C mt p s m args meth c → px_K E s → 1 ≤ d → 100 * d ≤ R.locals → d ≤ R.frames → px_L E mt.2.2.1 lsA ls → px_H E w H → (∀ q ∈ locs, px_A E q.base) →
      (∀ (H1 : Heap) (locs1 : List Loc), px_H E w' H1 ∧ (∀ q ∈ locs1, px_A E q.base) → W p (px_l E) e R s m args below meth c H1 locs1 cells slots Z (F0 m pc' lsA (st'.map (px_v E)))) → W p (px_l E) e R s m args below meth c H locs cells slots Z (F0 m pc lsA (st.map (px_v E))))
    (hd1 : 1 ≤ d) (k : px_W E mt d rc rs pc' ls st' w' Q) : px_W E mt d rc rs pc ls st w Q := by
  intro p e R s m args below meth c Z cx H locs cells slots lsA hC hK hx hH hl hL hR
  exact h p e R s m args below meth c Z H locs cells slots lsA hC hK hd1 hx.2.1 hx.1 hL hH hl (fun H1 locs1 q => k p e R s m args below meth c Z cx H1 locs1 cells slots lsA hC hK ⟨hx.1, hx.2.1, hx.2.2.1, hx.2.2.2.1, hx.2.2.2.2.1, by rw [hn]; exact hx.2.2.2.2.2⟩ q.1 q.2 hL hR)
theorem px_getI {r idx ci k : Nat} (hd : decode mt.2.1 pc = .ok (.getfield idx, 3)) (hf : px_flr mt.1.cls idx ci k) (hty : px_ki (px_ty ci k) = true) (hs : (pw_sh w r).1 = ci) (kk : px_W E mt d rc rs (pc + 3) ls (.int (pw_I w r k) :: st) w Q) : px_W E mt d rc rs pc ls (.ref r :: st) w Q := by
  obtain ⟨C, T, N, ⟨f1, f2, f3, f4, f5, f6⟩, hk, hl⟩ := hf
  refine px_read (fun p e R s m args below meth c Z H locs cells slots lsA hC hK hH hlo kk => ?_) kk
  obtain ⟨h1, h2⟩ := hH.2.2.2.2 r (by rw [hs]; omega)
  refine va_get hC.1 hC.2.1 hC.2.2.2.2.2.1 f4 hC.2.2.2.2.1 hK.1 hH.1 (r - 1) (by rw [px_ws_at h1 h2, px_e_o hs f3]) f1 k hk (hC.2.2.2.2.2.1 _ hl) (fun _ h => h) (by rw [px_fs_at (by rw [f2]; exact hk), px_fv_i hty]; rfl) hd kk
theorem px_getL {r idx ci k : Nat} (hd : decode mt.2.1 pc = .ok (.getfield idx, 3)) (hf : px_flr mt.1.cls idx ci k) (hty : px_ty ci k = .long) (hs : (pw_sh w r).1 = ci) (kk : px_W E mt d rc rs (pc + 3) ls (.long (pw_L w r k) :: st) w Q) : px_W E mt d rc rs pc ls (.ref r :: st) w Q := by
  obtain ⟨C, T, N, ⟨f1, f2, f3, f4, f5, f6⟩, hk, hl⟩ := hf
  refine px_read (fun p e R s m args below meth c Z H locs cells slots lsA hC hK hH hlo kk => ?_) kk
  obtain ⟨h1, h2⟩ := hH.2.2.2.2 r (by rw [hs]; omega)
  refine va_get hC.1 hC.2.1 hC.2.2.2.2.2.1 f4 hC.2.2.2.2.1 hK.1 hH.1 (r - 1) (by rw [px_ws_at h1 h2, px_e_o hs f3]) f1 k hk (hC.2.2.2.2.2.1 _ hl) (fun _ h => h) (by rw [px_fs_at (by rw [f2]; exact hk), hty]; rfl) hd kk
theorem px_getR {r idx ci k v : Nat} (hd : decode mt.2.1 pc = .ok (.getfield idx, 3)) (hf : px_flr mt.1.cls idx ci k) (hty : px_kr (px_ty ci k) = true) (hs : (pw_sh w r).1 = ci) (hv : pw_R w r k = v) (hv0 : v ≠ 0) (kk : px_W E mt d rc rs (pc + 3) ls (.ref v :: st) w Q) : px_W E mt d rc rs pc ls (.ref r :: st) w Q := by
  obtain ⟨C, T, N, ⟨f1, f2, f3, f4, f5, f6⟩, hk, hl⟩ := hf
  refine px_read (fun p e R s m args below meth c Z H locs cells slots lsA hC hK hH hlo kk => ?_) kk
  obtain ⟨h1, h2⟩ := hH.2.2.2.2 r (by rw [hs]; omega)
  refine va_get hC.1 hC.2.1 hC.2.2.2.2.2.1 f4 hC.2.2.2.2.1 hK.1 hH.1 (r - 1) (by rw [px_ws_at h1 h2, px_e_o hs f3]) f1 k hk (hC.2.2.2.2.2.1 _ hl) (fun _ h => h) (by rw [px_fs_at (by rw [f2]; exact hk), px_fv_r hty, hv, if_neg hv0]; rfl) hd kk
/-- any field's write -/
theorem px_put {r idx ci k : Nat} {fin : Bool} {v : Value} {w' : pw_W} (hd : decode mt.2.1 pc = .ok (.putfield idx, 3)) (hf : px_fl mt.1.cls idx ci k fin) (hfin : fin = false ∨ mt.1.name = "<init>") (hs : (pw_sh w r).1 = ci) (hn : narrow (px_ty ci k) (px_v E v) = px_v E v) (hfit : fits (px_ty ci k) (px_v E v) = true)
    (hw1 : w'.1.1 = w.1.1) (hw2 : ∀ a, pw_sh w' a = pw_sh w a) (hw3 : ∀ a, a ≠ r → px_e E w' a = px_e E w a) (hw4 : px_fv E w' r k (px_ty ci k) = px_v E v) (hw5 : ∀ j, j ≠ k → px_fv E w' r j (px_ty ci j) = px_fv E w r j (px_ty ci j))
    (hd1 : 1 ≤ d) (kk : px_W E mt d rc rs (pc + 3) ls st w' Q) : px_W E mt d rc rs pc ls (v :: .ref r :: st) w Q := by
  obtain ⟨C, T, N, ⟨f1, f2, f3, f4, f5, f6⟩, hk, hl, hfl, hown⟩ := hf
  refine px_write hw1 (fun p e R s m args below meth c Z H locs cells slots lsA hC hK _ _ _ _ hH hlo kk => ?_) hd1 kk
  obtain ⟨h1, h2⟩ := hH.2.2.2.2 r (by rw [hs]; omega)
  have hset : (px_ws E w).set (r - 1) (px_ad E r, .inr (ci, (px_fs E w r ci).set k (px_v E v))) = px_ws E w' := by
    rw [px_fs_set (w' := w') (by rw [f2]; exact hk) hw4 hw5, ← px_e_o (E := E) (w := w') (r := r) (by rw [hw2]; exact hs) f3]
    exact px_ws_set h1 hw1 hw3
  cases hfb : fin with
  | false =>
    rw [hfb] at hfl
    refine va_put hC.1 hC.2.1 hC.2.2.2.2.2.1 f4 (px_ty ci) f5 f6 hC.2.2.2.2.1 hK.1 hH.1 (px_Dd hK hH.2.2.2.1) (px_S hH hlo) (r - 1) (by rw [px_ws_at h1 h2, px_e_o hs f3]) f1 k hk (hC.2.2.2.2.2.1 _ hl) (fun _ h => h) hfl (f5 k hk) hn hfit (by simp [px_fs]; omega) hd (fun H1 locs1 hP _ hS => kk H1 locs1 (hH.step hP hset hS hw1 hw2))
  | true =>
    rw [hfb] at hfl hfin hown
    refine va_putF hC.1 hC.2.1 hC.2.2.2.2.2.1 f4 (px_ty ci) f5 f6 hC.2.2.2.2.1 hK.1 hH.1 (px_Dd hK hH.2.2.2.1) (px_S hH hlo) (r - 1) (by rw [px_ws_at h1 h2, px_e_o hs f3]) f1 k hk (hC.2.2.2.2.2.1 _ hl) (fun _ h => h) hfl (hC.2.2.2.2.2.2.trans (hfin.resolve_left (by decide))) (hown rfl) (f5 k hk) hn hfit (by simp [px_fs]; omega) hd (fun H1 locs1 hP _ hS => kk H1 locs1 (hH.step hP hset hS hw1 hw2))
theorem px_putI {r idx ci k : Nat} {fin : Bool} {v : Int32} (hd : decode mt.2.1 pc = .ok (.putfield idx, 3)) (hf : px_fl mt.1.cls idx ci k fin) (hfin : fin = false ∨ mt.1.name = "<init>") (hty : px_ki (px_ty ci k) = true) (hs : (pw_sh w r).1 = ci) (hn : narrow (px_ty ci k) (.int v) = .int v) (hfit : fits (px_ty ci k) (.int v) = true) (hd1 : 1 ≤ d) (kk : px_W E mt d rc rs (pc + 3) ls st (pw_sI w r k v) Q) : px_W E mt d rc rs pc ls (.int v :: .ref r :: st) w Q :=
  px_put (w' := pw_sI w r k v) hd hf hfin hs hn hfit rfl (fun _ => rfl) px_o_sI (by rw [px_fv_i hty, pw_I_sI, if_pos ⟨rfl, rfl⟩]; rfl) (fun j hj => px_fv_eq (by rw [pw_I_sI, if_neg (fun z => hj z.2)]) rfl rfl) hd1 kk
theorem px_putL {r idx ci k : Nat} {fin : Bool} {v : Int64} (hd : decode mt.2.1 pc = .ok (.putfield idx, 3)) (hf : px_fl mt.1.cls idx ci k fin) (hfin : fin = false ∨ mt.1.name = "<init>") (hty : px_ty ci k = .long) (hs : (pw_sh w r).1 = ci) (hd1 : 1 ≤ d) (kk : px_W E mt d rc rs (pc + 3) ls st (pw_sL w r k v) Q) : px_W E mt d rc rs pc ls (.long v :: .ref r :: st) w Q :=
  px_put (w' := pw_sL w r k v) hd hf hfin hs (by rw [hty]; rfl) (by rw [hty]; rfl) rfl (fun _ => rfl) px_o_sL (by rw [hty]; show Value.long _ = _; rw [pw_L_sL, if_pos ⟨rfl, rfl⟩]; rfl) (fun j hj => px_fv_eq rfl (by rw [pw_L_sL, if_neg (fun z => hj z.2)]) rfl) hd1 kk
theorem px_putR {r idx ci k v : Nat} {fin : Bool} (hd : decode mt.2.1 pc = .ok (.putfield idx, 3)) (hf : px_fl mt.1.cls idx ci k fin) (hfin : fin = false ∨ mt.1.name = "<init>") (hty : px_kr (px_ty ci k) = true) (hs : (pw_sh w r).1 = ci) (hv : v ≠ 0) (hd1 : 1 ≤ d) (kk : px_W E mt d rc rs (pc + 3) ls st (pw_sR w r k v) Q) : px_W E mt d rc rs pc ls (.ref v :: .ref r :: st) w Q :=
  px_put (w' := pw_sR w r k v) hd hf hfin hs (by revert hty; cases px_ty ci k <;> intro hty <;> first | rfl | (simp [px_kr] at hty)) (by revert hty; cases px_ty ci k <;> intro hty <;> first | rfl | (simp [px_kr] at hty)) rfl (fun _ => rfl) px_o_sR (by rw [px_fv_r hty, show pw_R (pw_sR w r k v) r k = v from if_pos ⟨rfl, rfl⟩, if_neg hv]; rfl) (fun j hj => px_fv_eq rfl rfl (by rw [pw_R_sR, if_neg (fun z => hj z.2)])) hd1 kk
end PWR
