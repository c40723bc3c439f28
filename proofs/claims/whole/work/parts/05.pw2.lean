def js_rem (x y : Int32) : Int32 := x - x / y * y
def js_shl (x y : Int32) : Int32 := x <<< (y &&& 31)
def js_shr (x y : Int32) : Int32 := x >>> (y &&& 31)
def js_ushr (x y : Int32) : Int32 := (x.toUInt32 >>> (y.toUInt32 &&& Int32.toUInt32 31)).toInt32
def js_lshl (x : Int64) (y : Int32) : Int64 := x <<< (y.toInt64 &&& 63)
def js_i2b (x : Int32) : Int32 := x.toInt8.toInt32
def js_i2c (x : Int32) : Int32 := (x.toUInt32 % 65536).toInt32
section PWR
variable {E : px_E} {mt : pm_T} {d rc rs pc : Nat} {ls st : List Value} {w : pw_W} {Q : Option Value → pw_W → Prop}
theorem px_idiv {x y : Int32} (hd : decode mt.2.1 pc = .ok (.idiv, 1)) (hy : ¬ y = 0) (k : px_W E mt d rc rs (pc + 1) ls (.int (x / y) :: st) w Q) : px_W E mt d rc rs pc ls (.int y :: .int x :: st) w Q :=
  px_step (fun _ _ _ _ _ _ _ _ _ _ _ _ _ _ _ hC hL kk => lv_idiv hC.1 hC.2.1 hd hy (kk _ hL)) k
theorem px_irem {x y : Int32} (hd : decode mt.2.1 pc = .ok (.irem, 1)) (hy : ¬ y = 0) (k : px_W E mt d rc rs (pc + 1) ls (.int (js_rem x y) :: st) w Q) : px_W E mt d rc rs pc ls (.int y :: .int x :: st) w Q :=
  px_step (fun _ _ _ _ _ _ _ _ _ _ _ _ _ _ _ hC hL kk => lv_irem hC.1 hC.2.1 hd hy (kk _ hL)) k
theorem px_ineg {x : Int32} (hd : decode mt.2.1 pc = .ok (.ineg, 1)) (k : px_W E mt d rc rs (pc + 1) ls (.int (-x) :: st) w Q) : px_W E mt d rc rs pc ls (.int x :: st) w Q :=
  px_step (fun _ _ _ _ _ _ _ _ _ _ _ _ _ _ _ hC hL kk => lv_ineg hC.1 hC.2.1 hd (kk _ hL)) k
theorem px_ishl {x y : Int32} (hd : decode mt.2.1 pc = .ok (.ishl, 1)) (k : px_W E mt d rc rs (pc + 1) ls (.int (js_shl x y) :: st) w Q) : px_W E mt d rc rs pc ls (.int y :: .int x :: st) w Q :=
  px_step (fun _ _ _ _ _ _ _ _ _ _ _ _ _ _ _ hC hL kk => lv_ishl hC.1 hC.2.1 hd (kk _ hL)) k
theorem px_ishr {x y : Int32} (hd : decode mt.2.1 pc = .ok (.ishr, 1)) (k : px_W E mt d rc rs (pc + 1) ls (.int (js_shr x y) :: st) w Q) : px_W E mt d rc rs pc ls (.int y :: .int x :: st) w Q :=
  px_step (fun _ _ _ _ _ _ _ _ _ _ _ _ _ _ _ hC hL kk => lv_ishr hC.1 hC.2.1 hd (kk _ hL)) k
theorem px_iushr {x y : Int32} (hd : decode mt.2.1 pc = .ok (.iushr, 1)) (k : px_W E mt d rc rs (pc + 1) ls (.int (js_ushr x y) :: st) w Q) : px_W E mt d rc rs pc ls (.int y :: .int x :: st) w Q :=
  px_step (fun _ _ _ _ _ _ _ _ _ _ _ _ _ _ _ hC hL kk => lv_iushr hC.1 hC.2.1 hd rfl (kk _ hL)) k
theorem px_i2l {x : Int32} (hd : decode mt.2.1 pc = .ok (.i2l, 1)) (k : px_W E mt d rc rs (pc + 1) ls (.long x.toInt64 :: st) w Q) : px_W E mt d rc rs pc ls (.int x :: st) w Q :=
  px_step (fun _ _ _ _ _ _ _ _ _ _ _ _ _ _ _ hC hL kk => lv_i2l hC.1 hC.2.1 hd rfl (kk _ hL)) k
theorem px_i2b {x : Int32} (hd : decode mt.2.1 pc = .ok (.i2b, 1)) (k : px_W E mt d rc rs (pc + 1) ls (.int (js_i2b x) :: st) w Q) : px_W E mt d rc rs pc ls (.int x :: st) w Q :=
  px_step (fun _ _ _ _ _ _ _ _ _ _ _ _ _ _ _ hC hL kk => lv_i2b hC.1 hC.2.1 hd rfl (kk _ hL)) k
theorem px_i2c {x : Int32} (hd : decode mt.2.1 pc = .ok (.i2c, 1)) (k : px_W E mt d rc rs (pc + 1) ls (.int (js_i2c x) :: st) w Q) : px_W E mt d rc rs pc ls (.int x :: st) w Q :=
  px_step (fun _ _ _ _ _ _ _ _ _ _ _ _ _ _ _ hC hL kk => lv_i2c hC.1 hC.2.1 hd rfl (kk _ hL)) k
theorem px_ladd {x y : Int64} (hd : decode mt.2.1 pc = .ok (.ladd, 1)) (k : px_W E mt d rc rs (pc + 1) ls (.long (x + y) :: st) w Q) : px_W E mt d rc rs pc ls (.long y :: .long x :: st) w Q :=
  px_step (fun _ _ _ _ _ _ _ _ _ _ _ _ _ _ _ hC hL kk => lv_ladd hC.1 hC.2.1 hd (kk _ hL)) k
theorem px_lmul {x y : Int64} (hd : decode mt.2.1 pc = .ok (.lmul, 1)) (k : px_W E mt d rc rs (pc + 1) ls (.long (x * y) :: st) w Q) : px_W E mt d rc rs pc ls (.long y :: .long x :: st) w Q :=
  px_step (fun _ _ _ _ _ _ _ _ _ _ _ _ _ _ _ hC hL kk => lv_lmul hC.1 hC.2.1 hd (kk _ hL)) k
theorem px_lor {x y : Int64} (hd : decode mt.2.1 pc = .ok (.lor, 1)) (k : px_W E mt d rc rs (pc + 1) ls (.long (x ||| y) :: st) w Q) : px_W E mt d rc rs pc ls (.long y :: .long x :: st) w Q :=
  px_step (fun _ _ _ _ _ _ _ _ _ _ _ _ _ _ _ hC hL kk => lv_lor hC.1 hC.2.1 hd (kk _ hL)) k
theorem px_lshl {x : Int64} {y : Int32} (hd : decode mt.2.1 pc = .ok (.lshl, 1)) (k : px_W E mt d rc rs (pc + 1) ls (.long (js_lshl x y) :: st) w Q) : px_W E mt d rc rs pc ls (.int y :: .long x :: st) w Q :=
  px_step (fun _ _ _ _ _ _ _ _ _ _ _ _ _ _ _ hC hL kk => lv_lshl hC.1 hC.2.1 hd rfl (kk _ hL)) k
theorem px_lcmp {x y : Int64} (hd : decode mt.2.1 pc = .ok (.lcmp, 1)) (k : px_W E mt d rc rs (pc + 1) ls (.int (lg_cmp x y) :: st) w Q) : px_W E mt d rc rs pc ls (.long y :: .long x :: st) w Q :=
  px_step (fun _ _ _ _ _ _ _ _ _ _ _ _ _ _ _ hC hL kk => W.lcmp hC.1 hC.2.1 hd (kk _ hL)) k
theorem px_dup {v : Value} (hd : decode mt.2.1 pc = .ok (.dup, 1)) (hv : v.category = 1) (k : px_W E mt d rc rs (pc + 1) ls (v :: v :: st) w Q) : px_W E mt d rc rs pc ls (v :: st) w Q :=
  px_step (fun _ _ _ _ _ _ _ _ _ _ _ _ _ _ _ hC hL kk => lv_dup hC.1 hC.2.1 hd (by rw [px_vcat]; exact hv) (kk _ hL)) k
theorem px_pop {v : Value} (hd : decode mt.2.1 pc = .ok (.pop, 1)) (hv : v.category = 1) (k : px_W E mt d rc rs (pc + 1) ls st w Q) : px_W E mt d rc rs pc ls (v :: st) w Q :=
  px_step (fun _ _ _ _ _ _ _ _ _ _ _ _ _ _ _ hC hL kk => lv_pop hC.1 hC.2.1 hd (by rw [px_vcat]; exact hv) (kk _ hL)) k
theorem px_dup2 {a b : Value} (hd : decode mt.2.1 pc = .ok (.dup2, 1)) (ha : a.category = 1) (hb : b.category = 1) (k : px_W E mt d rc rs (pc + 1) ls (a :: b :: a :: b :: st) w Q) : px_W E mt d rc rs pc ls (a :: b :: st) w Q :=
  px_step (fun _ _ _ _ _ _ _ _ _ _ _ _ _ _ _ hC hL kk => lv_dup2_11 hC.1 hC.2.1 hd (by rw [px_vcat]; exact ha) (by rw [px_vcat]; exact hb) (kk _ hL)) k
theorem px_goto {off : Int} {tgt : Nat} (hd : decode mt.2.1 pc = .ok (.goto off, 3)) (ht : (pc : Int) + off = (tgt : Int)) (k : px_W E mt d rc rs tgt ls st w Q) : px_W E mt d rc rs pc ls st w Q :=
  px_step (fun _ _ _ _ _ _ _ _ _ _ _ _ _ _ _ hC hL kk => lv_goto hC.1 hC.2.1 hd ht (kk _ hL)) k
/-- two ways -/
theorem px_two {c : Prop} {p1 p2 : Nat} {st' : List Value}
    (h : ∀ (p : Program) (e : Env) (R : Room) (s : State) (m : MethodId) (args : Array Value) (below : List Frame) (meth : Method) (cc : Code) (Z : State → Prop) (H : Heap) (locs : List Loc) (cells slots : Nat) (lsA : Array Slot), px_C mt p s m args meth cc → px_L E mt.2.2.1 lsA ls →
      (c → W p (px_l E) e R s m args below meth cc H locs cells slots Z (F0 m p1 lsA (st'.map (px_v E)))) → (¬ c → W p (px_l E) e R s m args below meth cc H locs cells slots Z (F0 m p2 lsA (st'.map (px_v E)))) → W p (px_l E) e R s m args below meth cc H locs cells slots Z (F0 m pc lsA (st.map (px_v E))))
    (k1 : c → px_W E mt d rc rs p1 ls st' w Q) (k2 : ¬ c → px_W E mt d rc rs p2 ls st' w Q) : px_W E mt d rc rs pc ls st w Q := by
  intro p e R s m args below meth cc Z cx H locs cells slots lsA hC hK hn hH hl hL hR
  exact h p e R s m args below meth cc Z H locs cells slots lsA hC hL (fun q => k1 q p e R s m args below meth cc Z cx H locs cells slots lsA hC hK hn hH hl hL hR) (fun q => k2 q p e R s m args below meth cc Z cx H locs cells slots lsA hC hK hn hH hl hL hR)
theorem px_if_eq {x : Int32} {off : Int} {tgt : Nat} (hd : decode mt.2.1 pc = .ok (.ifCond .eq off, 3)) (ht : (pc : Int) + off = (tgt : Int)) (k1 : x = 0 → px_W E mt d rc rs tgt ls st w Q) (k2 : ¬ x = 0 → px_W E mt d rc rs (pc + 3) ls st w Q) : px_W E mt d rc rs pc ls (.int x :: st) w Q :=
  px_two (fun _ _ _ _ _ _ _ _ _ _ _ _ _ _ _ hC _ a b => lv_if_eq hC.1 hC.2.1 hd ht a b) k1 k2
theorem px_if_ne {x : Int32} {off : Int} {tgt : Nat} (hd : decode mt.2.1 pc = .ok (.ifCond .ne off, 3)) (ht : (pc : Int) + off = (tgt : Int)) (k1 : ¬ x = 0 → px_W E mt d rc rs tgt ls st w Q) (k2 : x = 0 → px_W E mt d rc rs (pc + 3) ls st w Q) : px_W E mt d rc rs pc ls (.int x :: st) w Q :=
  px_two (c := ¬ x = 0) (fun _ _ _ _ _ _ _ _ _ _ _ _ _ _ _ hC _ a b => lv_if_ne hC.1 hC.2.1 hd ht a (fun q => b (fun z => z q))) k1 (fun h => k2 (Classical.not_not.mp h))
theorem px_if_lt {x : Int32} {off : Int} {tgt : Nat} (hd : decode mt.2.1 pc = .ok (.ifCond .lt off, 3)) (ht : (pc : Int) + off = (tgt : Int)) (k1 : x < 0 → px_W E mt d rc rs tgt ls st w Q) (k2 : ¬ x < 0 → px_W E mt d rc rs (pc + 3) ls st w Q) : px_W E mt d rc rs pc ls (.int x :: st) w Q :=
  px_two (fun _ _ _ _ _ _ _ _ _ _ _ _ _ _ _ hC _ a b => lv_if_lt hC.1 hC.2.1 hd ht a b) k1 k2
theorem px_if_ge {x : Int32} {off : Int} {tgt : Nat} (hd : decode mt.2.1 pc = .ok (.ifCond .ge off, 3)) (ht : (pc : Int) + off = (tgt : Int)) (k1 : 0 ≤ x → px_W E mt d rc rs tgt ls st w Q) (k2 : ¬ 0 ≤ x → px_W E mt d rc rs (pc + 3) ls st w Q) : px_W E mt d rc rs pc ls (.int x :: st) w Q :=
  px_two (fun _ _ _ _ _ _ _ _ _ _ _ _ _ _ _ hC _ a b => lv_if_ge hC.1 hC.2.1 hd ht a b) k1 k2
theorem px_if_gt {x : Int32} {off : Int} {tgt : Nat} (hd : decode mt.2.1 pc = .ok (.ifCond .gt off, 3)) (ht : (pc : Int) + off = (tgt : Int)) (k1 : 0 < x → px_W E mt d rc rs tgt ls st w Q) (k2 : ¬ 0 < x → px_W E mt d rc rs (pc + 3) ls st w Q) : px_W E mt d rc rs pc ls (.int x :: st) w Q :=
  px_two (fun _ _ _ _ _ _ _ _ _ _ _ _ _ _ _ hC _ a b => lv_if_gt hC.1 hC.2.1 hd ht a b) k1 k2
theorem px_if_le {x : Int32} {off : Int} {tgt : Nat} (hd : decode mt.2.1 pc = .ok (.ifCond .le off, 3)) (ht : (pc : Int) + off = (tgt : Int)) (k1 : x ≤ 0 → px_W E mt d rc rs tgt ls st w Q) (k2 : ¬ x ≤ 0 → px_W E mt d rc rs (pc + 3) ls st w Q) : px_W E mt d rc rs pc ls (.int x :: st) w Q :=
  px_two (fun _ _ _ _ _ _ _ _ _ _ _ _ _ _ _ hC _ a b => lv_if_le hC.1 hC.2.1 hd ht a b) k1 k2
theorem px_icmp_eq {x y : Int32} {off : Int} {tgt : Nat} (hd : decode mt.2.1 pc = .ok (.if_icmp .eq off, 3)) (ht : (pc : Int) + off = (tgt : Int)) (k1 : x = y → px_W E mt d rc rs tgt ls st w Q) (k2 : ¬ x = y → px_W E mt d rc rs (pc + 3) ls st w Q) : px_W E mt d rc rs pc ls (.int y :: .int x :: st) w Q :=
  px_two (fun _ _ _ _ _ _ _ _ _ _ _ _ _ _ _ hC _ a b => lv_icmp_eq hC.1 hC.2.1 hd ht a b) k1 k2
theorem px_icmp_ne {x y : Int32} {off : Int} {tgt : Nat} (hd : decode mt.2.1 pc = .ok (.if_icmp .ne off, 3)) (ht : (pc : Int) + off = (tgt : Int)) (k1 : ¬ x = y → px_W E mt d rc rs tgt ls st w Q) (k2 : x = y → px_W E mt d rc rs (pc + 3) ls st w Q) : px_W E mt d rc rs pc ls (.int y :: .int x :: st) w Q :=
  px_two (c := ¬ x = y) (fun _ _ _ _ _ _ _ _ _ _ _ _ _ _ _ hC _ a b => lv_icmp_ne hC.1 hC.2.1 hd ht a (fun q => b (fun z => z q))) k1 (fun h => k2 (Classical.not_not.mp h))
theorem px_icmp_lt {x y : Int32} {off : Int} {tgt : Nat} (hd : decode mt.2.1 pc = .ok (.if_icmp .lt off, 3)) (ht : (pc : Int) + off = (tgt : Int)) (k1 : x < y → px_W E mt d rc rs tgt ls st w Q) (k2 : ¬ x < y → px_W E mt d rc rs (pc + 3) ls st w Q) : px_W E mt d rc rs pc ls (.int y :: .int x :: st) w Q :=
  px_two (fun _ _ _ _ _ _ _ _ _ _ _ _ _ _ _ hC _ a b => lv_icmp_lt hC.1 hC.2.1 hd ht a b) k1 k2
theorem px_icmp_ge {x y : Int32} {off : Int} {tgt : Nat} (hd : decode mt.2.1 pc = .ok (.if_icmp .ge off, 3)) (ht : (pc : Int) + off = (tgt : Int)) (k1 : y ≤ x → px_W E mt d rc rs tgt ls st w Q) (k2 : ¬ y ≤ x → px_W E mt d rc rs (pc + 3) ls st w Q) : px_W E mt d rc rs pc ls (.int y :: .int x :: st) w Q :=
  px_two (fun _ _ _ _ _ _ _ _ _ _ _ _ _ _ _ hC _ a b => lv_icmp_ge hC.1 hC.2.1 hd ht a b) k1 k2
theorem px_icmp_gt {x y : Int32} {off : Int} {tgt : Nat} (hd : decode mt.2.1 pc = .ok (.if_icmp .gt off, 3)) (ht : (pc : Int) + off = (tgt : Int)) (k1 : y < x → px_W E mt d rc rs tgt ls st w Q) (k2 : ¬ y < x → px_W E mt d rc rs (pc + 3) ls st w Q) : px_W E mt d rc rs pc ls (.int y :: .int x :: st) w Q :=
  px_two (fun _ _ _ _ _ _ _ _ _ _ _ _ _ _ _ hC _ a b => lv_icmp_gt hC.1 hC.2.1 hd ht a b) k1 k2
theorem px_icmp_le {x y : Int32} {off : Int} {tgt : Nat} (hd : decode mt.2.1 pc = .ok (.if_icmp .le off, 3)) (ht : (pc : Int) + off = (tgt : Int)) (k1 : x ≤ y → px_W E mt d rc rs tgt ls st w Q) (k2 : ¬ x ≤ y → px_W E mt d rc rs (pc + 3) ls st w Q) : px_W E mt d rc rs pc ls (.int y :: .int x :: st) w Q :=
  px_two (fun _ _ _ _ _ _ _ _ _ _ _ _ _ _ _ hC _ a b => lv_icmp_le hC.1 hC.2.1 hd ht a b) k1 k2
theorem px_table {x : Int32} {dflt lo hi : Int} {offs : Array Int} {len : Nat} (hd : decode mt.2.1 pc = .ok (.tableswitch dflt lo hi offs, len)) {tgt : Nat} (off : Int) (ho : (if x.toInt < lo ∨ hi < x.toInt then some dflt else offs[(x.toInt - lo).toNat]?) = some off) (ht : (pc : Int) + off = (tgt : Int)) (k : px_W E mt d rc rs tgt ls st w Q) : px_W E mt d rc rs pc ls (.int x :: st) w Q := by
  refine px_step (fun _ _ _ _ _ _ _ _ _ _ _ _ _ _ _ hC hL kk => ?_) k
  by_cases h : x.toInt < lo ∨ hi < x.toInt
  · rw [if_pos h] at ho
    cases ho
    exact lv_tableOut hC.1 hC.2.1 hd h ht (kk _ hL)
  · rw [if_neg h] at ho
    rw [not_or] at h
    exact lv_tableIn hC.1 hC.2.1 hd h.1 h.2 ho ht (kk _ hL)
theorem px_lookup {x : Int32} {dflt : Int} {ps : Array (Int × Int)} {len : Nat} {off : Int} {tgt : Nat} (hd : decode mt.2.1 pc = .ok (.lookupswitch dflt ps, len)) (hp : (ps.toList.zip (ps.toList.drop 1)).all (fun (a, next) => a.1 < next.1) = true) (ho : Op.lookupswitch.offset ps.toList dflt x.toInt = off) (ht : (pc : Int) + off = (tgt : Int)) (k : px_W E mt d rc rs tgt ls st w Q) : px_W E mt d rc rs pc ls (.int x :: st) w Q :=
  px_step (fun _ _ _ _ _ _ _ _ _ _ _ _ _ _ _ hC hL kk => lv_lookup hC.1 hC.2.1 hd hp ho ht (kk _ hL)) k
end PWR
section PWR
variable {E : px_E} {mt : pm_T} {d rc rs pc : Nat} {ls st : List Value} {w : pw_W} {Q : Option Value → pw_W → Prop}
/-- a store among the locals: none ahead of it is a long -/
def px_ok1 (ls : List Value) (i : Nat) : Bool := match i with
  | 0 => true
  | j + 1 => match ls[j]? with
    | some u => u.category == 1
    | none => true
theorem px_ok1_spec {ls : List Value} {i : Nat} (h : px_ok1 ls i = true) : ∀ (j : Nat) (u : Value), ls[j]? = some u → j + 1 = i → u.category = 1 := by
  intro j u hj e
  subst e
  have h2 : (match ls[j]? with
    | some u => u.category == 1
    | none => true) = true := h
  rw [hj] at h2
  exact of_decide_eq_true h2
theorem px_istore {i : Nat} {v : Int32} {ls' : List Value} (hd : decode mt.2.1 pc = .ok (.istore i, 2)) (hn : i < mt.2.2.1 ∧ px_ok1 ls i = true) (hl : ls.set i (.int v) = ls') (k : px_W E mt d rc rs (pc + 2) ls' st w Q) : px_W E mt d rc rs pc ls (.int v :: st) w Q := by
  subst hl
  refine px_step (fun p e R s m args below meth c Z H locs cells slots lsA hC hL kk => ?_) k
  obtain ⟨lsB, h1, h2⟩ := hL.store1 (v := .int v) hn.1 rfl (px_ok1_spec hn.2)
  intro T hT X
  obtain ⟨t, a, b⟩ := kk lsB h2 T hT X
  refine ⟨t, ?_, b⟩
  have h1' : storeLocals lsA i (.int v) = some lsB := h1
  jvm_step X.here [X.here.top, hC.1, hC.2.1, hd, h1', px_v]
  exact a
theorem px_istore_n {j : Fin 4} {i : Nat} {v : Int32} {ls' : List Value} (hd : decode mt.2.1 pc = .ok (.istore_n j, 1)) (hi : (j : Nat) = i) (hn : i < mt.2.2.1 ∧ px_ok1 ls i = true) (hl : ls.set i (.int v) = ls') (k : px_W E mt d rc rs (pc + 1) ls' st w Q) : px_W E mt d rc rs pc ls (.int v :: st) w Q := by
  subst hl
  refine px_step (fun p e R s m args below meth c Z H locs cells slots lsA hC hL kk => ?_) k
  obtain ⟨lsB, h1, h2⟩ := hL.store1 (v := .int v) hn.1 rfl (px_ok1_spec hn.2)
  intro T hT X
  obtain ⟨t, a, b⟩ := kk lsB h2 T hT X
  refine ⟨t, ?_, b⟩
  have h1' : storeLocals lsA j (.int v) = some lsB := by rw [hi]; exact h1
  jvm_step X.here [X.here.top, hC.1, hC.2.1, hd, h1', px_v]
  exact a
theorem px_astore_n {j : Fin 4} {i : Nat} {v : Nat} {ls' : List Value} (hd : decode mt.2.1 pc = .ok (.astore_n j, 1)) (hi : (j : Nat) = i) (hn : i < mt.2.2.1 ∧ px_ok1 ls i = true) (hl : ls.set i (.ref v) = ls') (k : px_W E mt d rc rs (pc + 1) ls' st w Q) : px_W E mt d rc rs pc ls (.ref v :: st) w Q := by
  subst hl
  refine px_step (fun p e R s m args below meth c Z H locs cells slots lsA hC hL kk => ?_) k
  obtain ⟨lsB, h1, h2⟩ := hL.store1 (v := .ref v) hn.1 rfl (px_ok1_spec hn.2)
  intro T hT X
  obtain ⟨t, a, b⟩ := kk lsB h2 T hT X
  refine ⟨t, ?_, b⟩
  have h1' : storeLocals lsA j (.ref (px_ad E v)) = some lsB := by rw [hi]; exact h1
  jvm_step X.here [X.here.top, hC.1, hC.2.1, hd, h1', px_v, Value.isRef]
  exact a
theorem px_iinc {i : Nat} {n : Int} {x v : Int32} {ls' : List Value} (hd : decode mt.2.1 pc = .ok (.iinc i n, 3)) (hn : i < mt.2.2.1 ∧ px_ok1 ls i = true) (hx : ls[i]? = some (.int x)) (hv : x + Int32.ofInt n = v) (hl : ls.set i (.int v) = ls') (k : px_W E mt d rc rs (pc + 3) ls' st w Q) : px_W E mt d rc rs pc ls st w Q := by
  subst hl
  refine px_step (fun p e R s m args below meth c Z H locs cells slots lsA hC hL kk => ?_) k
  obtain ⟨lsB, h1, h2⟩ := hL.store1 (v := .int v) hn.1 rfl (px_ok1_spec hn.2)
  intro T hT X
  obtain ⟨t, a, b⟩ := kk lsB h2 T hT X
  refine ⟨t, ?_, b⟩
  have h1' : storeLocals lsA i (.int v) = some lsB := h1
  have hxx : lsA[i]? = some (.val (.int x)) := hL.2.2 i _ hx (fun h => by cases h)
  jvm_step X.here [X.here.top, hC.1, hC.2.1, hd, hxx, hv, h1', px_v]
  exact a
end PWR
