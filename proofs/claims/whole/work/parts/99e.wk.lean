/-! worlds while the two objects are made: cells, references, ints so far -/
def zN : List (Nat × Nat × Nat) → Nat → Nat → Nat
  | [], _, _ => 0
  | e :: L, a, b => if a = e.1 ∧ b = e.2.1 then e.2.2 else zN L a b
def zV : List (Nat × Nat × Int32) → Nat → Nat → Int32
  | [], _, _ => 0
  | e :: L, a, b => if a = e.1 ∧ b = e.2.1 then e.2.2 else zV L a b
theorem zN_no {L : List (Nat × Nat × Nat)} {a : Nat} (h : ∀ e ∈ L, e.1 ≠ a) : zN L a = fun _ => 0 := by
  induction L with
  | nil => rfl
  | cons e L ih =>
    funext b
    rw [zN, if_neg (fun z => h e List.mem_cons_self z.1.symm), ih (fun x hx => h x (List.mem_cons_of_mem _ hx))]
theorem zV_no {L : List (Nat × Nat × Int32)} {a : Nat} (h : ∀ e ∈ L, e.1 ≠ a) : zV L a = fun _ => 0 := by
  induction L with
  | nil => rfl
  | cons e L ih =>
    funext b
    rw [zV, if_neg (fun z => h e List.mem_cons_self z.1.symm), ih (fun x hx => h x (List.mem_cons_of_mem _ hx))]
def zLs : List (Nat × Nat × Nat) := [(1, 0, 2), (3, 1, 4), (3, 2, 5), (3, 3, 6), (3, 5, 7), (3, 6, 8), (3, 7, 9), (3, 9, 10), (3, 10, 11), (3, 11, 12), (13, 0, 14), (13, 1, 15), (3, 15, 13), (1, 2, 3), (17, 0, 18), (17, 1, 19), (16, 0, 17), (16, 1, 20), (16, 2, 21), (22, 1, 23), (22, 2, 24), (22, 3, 25), (22, 5, 26), (22, 6, 27), (22, 7, 28), (22, 9, 29), (22, 10, 30), (22, 11, 31), (32, 0, 33), (32, 1, 34), (22, 15, 32), (16, 3, 22), (1, 5, 16), (35, 0, 36), (35, 1, 37), (1, 6, 35), (38, 0, 39), (1, 7, 38), (1, 8, 40), (42, 0, 43), (42, 1, 44), (41, 0, 42), (41, 1, 45), (1, 10, 41), (46, 0, 47), (1, 11, 46), (48, 0, 49), (48, 1, 50), (48, 2, 51), (48, 3, 52), (48, 4, 53), (48, 5, 54), (48, 6, 55), (48, 8, 56), (57, 0, 58), (57, 1, 59), (48, 9, 57), (1, 12, 48), (1, 13, 60), (61, 0, 62), (61, 10, 63), (61, 11, 64), (61, 12, 65), (61, 13, 66), (61, 14, 67), (61, 15, 68), (61, 16, 69), (61, 26, 70), (61, 27, 71), (61, 28, 72), (61, 29, 73), (61, 30, 74), (61, 31, 75), (61, 32, 76), (61, 33, 77), (61, 34, 78), (61, 35, 79), (61, 36, 80), (61, 37, 81), (61, 38, 82), (61, 39, 83), (61, 40, 84), (61, 41, 85), (61, 42, 86), (61, 43, 87), (61, 44, 88), (61, 60, 89), (61, 61, 90), (61, 62, 91), (61, 65, 92), (61, 66, 93), (61, 67, 94), (61, 70, 95), (61, 71, 96), (61, 72, 97), (61, 73, 98), (61, 74, 99), (61, 75, 100), (61, 76, 101), (61, 77, 102), (61, 80, 103), (61, 81, 104), (61, 82, 105), (61, 83, 106), (61, 84, 107)]
def zIs : List (Nat × Nat × Int32) := [(1, 1, 0), (3, 0, 0), (3, 4, 0), (3, 8, 0), (3, 12, 40), (3, 13, 0), (3, 14, 0), (13, 2, 0), (13, 3, 0), (14, 0, 9), (13, 2, 1), (14, 1, (-1)), (13, 2, 2), (14, 2, (-13)), (13, 2, 3), (1, 3, 0), (1, 4, (-1)), (22, 0, 0), (22, 4, 0), (22, 8, 0), (22, 12, 40), (22, 13, 0), (22, 14, 0), (32, 2, 0), (32, 3, 0), (33, 0, 9), (32, 2, 1), (33, 1, (-1)), (32, 2, 2), (33, 2, (-13)), (32, 2, 3), (1, 9, 0), (1, 14, 0), (61, 3, (-1)), (61, 54, 40)]
def wkS (k : Nat) : Nat → Nat × Nat := fun r => if r ≤ k then cs_shl.getD r (999, 0) else (999, 0)
def wk (k j i : Nat) (J : Nat → Int64) : pw_W := ((k, wkS k, zN (zLs.take j).reverse), zV (zIs.take i).reverse, fun a => if a = 18 then J else fun _ => 0)
def zJ0 : Nat → Int64 := fun _ => 0
theorem wk_new {k j i : Nat} {J : Nat → Int64} {t : Nat × Nat} (hs : cs_shl.getD (k + 1) (999, 0) = t) (hL : (zLs.take j).all (fun e => e.1 != k + 1) = true) (hI : (zIs.take i).all (fun e => e.1 != k + 1) = true) (hJ : k + 1 = 18 → J = zJ0) : pw_new (wk k j i J) t = wk (k + 1) j i J := by
  have h1 : (fun a => if a = k + 1 then t else wkS k a) = wkS (k + 1) := by
    funext a
    unfold wkS
    by_cases e : a = k + 1
    · rw [if_pos e, if_pos (by omega), e, hs]
    · rw [if_neg e]
      by_cases q : a ≤ k
      · rw [if_pos q, if_pos (by omega)]
      · rw [if_neg q, if_neg (by omega)]
  have h2 : (fun a => if a = k + 1 then (fun _ => 0) else zN (zLs.take j).reverse a) = zN (zLs.take j).reverse := by
    funext a
    by_cases e : a = k + 1
    · rw [if_pos e, e]
      exact (zN_no (fun x hx => by
        have := List.all_eq_true.mp hL x (List.mem_reverse.mp hx)
        exact bne_iff_ne.mp this)).symm
    · rw [if_neg e]
  have h3 : (fun a => if a = k + 1 then (fun _ => 0) else zV (zIs.take i).reverse a) = zV (zIs.take i).reverse := by
    funext a
    by_cases e : a = k + 1
    · rw [if_pos e, e]
      exact (zV_no (fun x hx => by
        have := List.all_eq_true.mp hI x (List.mem_reverse.mp hx)
        exact bne_iff_ne.mp this)).symm
    · rw [if_neg e]
  have h4 : (fun a => if a = k + 1 then (fun _ => 0) else (if a = 18 then J else fun _ => (0 : Int64))) = (fun a => if a = 18 then J else fun _ => 0) := by
    funext a
    by_cases e : a = k + 1
    · rw [if_pos e, e]
      by_cases q : k + 1 = 18
      · rw [if_pos q, hJ q]; rfl
      · rw [if_neg q]
    · rw [if_neg e]
  show ((k + 1, (fun a => if a = k + 1 then t else wkS k a), (fun a => if a = k + 1 then (fun _ => 0) else zN (zLs.take j).reverse a)), (fun a => if a = k + 1 then (fun _ => 0) else zV (zIs.take i).reverse a), (fun a => if a = k + 1 then (fun _ => 0) else (if a = 18 then J else fun _ => (0 : Int64)))) = _
  rw [h1, h2, h3, h4]
  rfl
theorem zN_take {j : Nat} {e : Nat × Nat × Nat} (h : zLs[j]? = some e) : (zLs.take (j + 1)).reverse = e :: (zLs.take j).reverse := by
  rw [List.take_add_one, h, List.reverse_append]; rfl
theorem zV_take {j : Nat} {e : Nat × Nat × Int32} (h : zIs[j]? = some e) : (zIs.take (j + 1)).reverse = e :: (zIs.take j).reverse := by
  rw [List.take_add_one, h, List.reverse_append]; rfl
theorem wk_sR {k j i r f v : Nat} {J : Nat → Int64} (h : zLs[j]? = some (r, f, v)) : pw_sR (wk k j i J) r f v = wk k (j + 1) i J := by
  unfold wk
  rw [zN_take h]
  rfl
theorem wk_sI {k j i r f : Nat} {v : Int32} {J : Nat → Int64} (h : zIs[i]? = some (r, f, v)) : pw_sI (wk k j i J) r f v = wk k j (i + 1) J := by
  unfold wk
  rw [zV_take h]
  rfl
theorem wk_sh {k j i r : Nat} {J : Nat → Int64} {t : Nat × Nat} (h : wkS k r = t) : pw_sh (wk k j i J) r = t := h
theorem wk_sh1 {k j i r c : Nat} {J : Nat → Int64} (h : (wkS k r).1 = c) : (pw_sh (wk k j i J) r).1 = c := h
theorem wk_R {k j i r f v : Nat} {J : Nat → Int64} (h : zN (zLs.take j).reverse r f = v) : pw_R (wk k j i J) r f = v := h
theorem wk_I {k j i r f : Nat} {v : Int32} {J : Nat → Int64} (h : zV (zIs.take i).reverse r f = v) : pw_I (wk k j i J) r f = v := h
def px_kd (ty : FieldType) : Bool := match ty with
  | .int => true
  | .boolean => true
  | .byte => true
  | .long => true
  | .object _ => true
  | .array _ => true
  | _ => false
theorem px_dflt {E : px_E} {w : pw_W} {t : Nat × Nat} {r j : Nat} {ty : FieldType} (hr : w.1.1 + 1 = r) (h : px_kd ty = true) : defaultValue ty = px_fv E (pw_new w t) r j ty := by
  subst hr
  have a : pw_I (pw_new w t) (w.1.1 + 1) j = 0 := by rw [pw_new_I, if_pos rfl]
  have b : pw_L (pw_new w t) (w.1.1 + 1) j = 0 := by rw [pw_new_L, if_pos rfl]
  have c : pw_R (pw_new w t) (w.1.1 + 1) j = 0 := by rw [pw_new_R, if_pos rfl]
  cases ty <;> first | (cases h; done) | (unfold px_fv; simp only [a, b, c]; rfl)
section CXR
variable {E : px_E} {mt : pm_T} {d rc rs pc : Nat} {ls st : List Value} {Q : Option Value → pw_W → Prop} {k j i : Nat} {J : Nat → Int64}
theorem cx_new {idx ci N : Nat} {C : String} {T : u_T} (hd : decode mt.2.1 pc = .ok (.new idx, 3)) (hf : px_cf ci C T N) (h1 : Cond.classLink mt.1.cls idx C ∈ lw_gd) (h2 : Cond.instantiable C N ∈ lw_gd) (h3 : Cond.initialized C ∈ lw_gd) (hb : k < 200) (hT : (List.range N).all (fun j => px_kd (px_ty ci j)) = true) (hs : cs_shl.getD (k + 1) (999, 0) = (ci, 0)) (hL : (zLs.take j).all (fun e => e.1 != k + 1) = true) (hI : (zIs.take i).all (fun e => e.1 != k + 1) = true) (hJ : k + 1 = 18 → J = zJ0)
    (kk : px_W E mt d rc rs (pc + 3) ls (.ref (k + 1) :: st) (wk (k + 1) j i J) Q) : px_W E mt d (1 + rc) (N + rs) pc ls st (wk k j i J) Q :=
  px_new (w := wk k j i J) (r := k + 1) hd hf h1 h2 h3 rfl (by show k + 1 < 1000000; omega) (fun q hq => px_dflt rfl (List.all_eq_true.mp hT q (List.mem_range.mpr hq))) (by rw [wk_new hs hL hI hJ]; exact kk)
theorem cx_newA {t N : Nat} {at_ : ArrayType} {n : Int32} (hd : decode mt.2.1 pc = .ok (.newarray at_, 2)) (ht : (t = 100 ∨ t = 101 ∨ t = 102) ∨ t = 103) (hty : newarray.typeOf at_ = px_tt t) (harr : Cond.arrayClass (px_tt t) ∈ lw_gd) (hN : n = nI N) (hn : N < 10000) (hb : k < 200) (hs : cs_shl.getD (k + 1) (999, 0) = (t, N)) (hL : (zLs.take j).all (fun e => e.1 != k + 1) = true) (hI : (zIs.take i).all (fun e => e.1 != k + 1) = true) (hJ : k + 1 = 18 → J = zJ0)
    (kk : px_W E mt d rc rs (pc + 2) ls (.ref (k + 1) :: st) (wk (k + 1) j i J) Q) : px_W E mt d (1 + rc) (N + rs) pc ls (.int n :: st) (wk k j i J) Q :=
  px_newA (w := wk k j i J) (r := k + 1) hd ht hty harr hN hn rfl (by show k + 1 < 1000000; omega) (by rw [wk_new hs hL hI hJ]; exact kk)
theorem cx_putR {r idx ci f v : Nat} {fin : Bool} (hd : decode mt.2.1 pc = .ok (.putfield idx, 3)) (hf : px_fl mt.1.cls idx ci f fin) (hfin : fin = false ∨ mt.1.name = "<init>") (hty : px_kr (px_ty ci f) = true) (hs : (wkS k r).1 = ci) (hv : v ≠ 0) (hd1 : 1 ≤ d) (hz : zLs[j]? = some (r, f, v)) (kk : px_W E mt d rc rs (pc + 3) ls st (wk k (j + 1) i J) Q) : px_W E mt d rc rs pc ls (.ref v :: .ref r :: st) (wk k j i J) Q :=
  px_putR hd hf hfin hty (wk_sh1 hs) hv hd1 (by rw [wk_sR hz]; exact kk)
theorem cx_putI {r idx ci f : Nat} {fin : Bool} {v : Int32} (hd : decode mt.2.1 pc = .ok (.putfield idx, 3)) (hf : px_fl mt.1.cls idx ci f fin) (hfin : fin = false ∨ mt.1.name = "<init>") (hty : px_ki (px_ty ci f) = true) (hs : (wkS k r).1 = ci) (hn : narrow (px_ty ci f) (.int v) = .int v) (hfit : fits (px_ty ci f) (.int v) = true) (hd1 : 1 ≤ d) (hz : zIs[i]? = some (r, f, v)) (kk : px_W E mt d rc rs (pc + 3) ls st (wk k j (i + 1) J) Q) : px_W E mt d rc rs pc ls (.int v :: .ref r :: st) (wk k j i J) Q :=
  px_putI hd hf hfin hty (wk_sh1 hs) hn hfit hd1 (by rw [wk_sI hz]; exact kk)
theorem cx_getI {r idx ci f : Nat} {v : Int32} (hd : decode mt.2.1 pc = .ok (.getfield idx, 3)) (hf : px_flr mt.1.cls idx ci f) (hty : px_ki (px_ty ci f) = true) (hs : (wkS k r).1 = ci) (hv : zV (zIs.take i).reverse r f = v) (kk : px_W E mt d rc rs (pc + 3) ls (.int v :: st) (wk k j i J) Q) : px_W E mt d rc rs pc ls (.ref r :: st) (wk k j i J) Q :=
  px_getI hd hf hty (wk_sh1 hs) (by rw [wk_I hv]; exact kk)
theorem cx_getR {r idx ci f v : Nat} (hd : decode mt.2.1 pc = .ok (.getfield idx, 3)) (hf : px_flr mt.1.cls idx ci f) (hty : px_kr (px_ty ci f) = true) (hs : (wkS k r).1 = ci) (hv : zN (zLs.take j).reverse r f = v) (hv0 : v ≠ 0) (kk : px_W E mt d rc rs (pc + 3) ls (.ref v :: st) (wk k j i J) Q) : px_W E mt d rc rs pc ls (.ref r :: st) (wk k j i J) Q :=
  px_getR hd hf hty (wk_sh1 hs) (wk_R hv) hv0 kk
theorem cx_iast {r n f : Nat} {x y : Int32} (hd : decode mt.2.1 pc = .ok (.iastore, 1)) (hs : wkS k r = (100, n)) (hn : n < 2 ^ 31) (hi : x = nI f) (hj : f < n) (hd1 : 1 ≤ d) (hz : zIs[i]? = some (r, f, y)) (kk : px_W E mt d rc rs (pc + 1) ls st (wk k j (i + 1) J) Q) : px_W E mt d rc rs pc ls (.int y :: .int x :: .ref r :: st) (wk k j i J) Q :=
  px_iast hd (wk_sh hs) hn f hi hj hd1 (by rw [wk_sI hz]; exact kk)
end CXR
