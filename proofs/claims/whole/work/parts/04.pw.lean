/-! the judgement: from this pc, with these locals and this stack, in this world, the method comes to a return with Q -/
def px_C (mt : pm_T) (p : Program) (s : State) (m : MethodId) (args : Array Value) (meth : Method) (c : Code) : Prop :=
  p.tables.exec = Jvm.exec ∧ c.code = mt.2.1 ∧ c.maxLocals = mt.2.2.1 ∧ meth.sig.returnType = mt.2.2.2 ∧ s.vm.findClass mt.1.cls = some m.cls ∧ (∀ w ∈ lw_gd, w.before args s = true) ∧ meth.name = mt.1.name
def px_RA (mt : pm_T) (pc : Nat) (st : List Value) (r : Option Value) : Prop :=
  (∃ v : Int32, decode mt.2.1 pc = .ok (.ireturn, 1) ∧ st = [.int v] ∧ r = some (.int v) ∧ ∃ ty, mt.2.2.2 = some ty ∧ narrow ty (.int v) = .int v) ∨
  (decode mt.2.1 pc = .ok (.return_, 1) ∧ st = [] ∧ r = none ∧ mt.2.2.2 = none) ∨
  (∃ v : Int64, decode mt.2.1 pc = .ok (.lreturn, 1) ∧ st = [.long v] ∧ r = some (.long v) ∧ mt.2.2.2 = some .long) ∨
  (∃ a : Nat, decode mt.2.1 pc = .ok (.areturn, 1) ∧ st = [.ref a] ∧ r = some (.ref a) ∧ ∃ n, mt.2.2.2 = some (.object n))
/-- every end of the method that Q allows is an end that Z takes -/
def px_Rt (E : px_E) (mt : pm_T) (p : Program) (e : Env) (R : Room) (s : State) (m : MethodId) (args : Array Value) (below : List Frame) (meth : Method) (c : Code) (Z : State → Prop) (cx : Nat) (Q : Option Value → pw_W → Prop) : Prop :=
  ∀ (r : Option Value) (w : pw_W) (pc : Nat) (lsA : Array Slot) (st : List Value) (H : Heap) (locs : List Loc) (slots : Nat), Q r w → px_RA mt pc st r → slots ≤ R.slots → px_H E w H → (∀ q ∈ locs, px_A E q.base) → s.heap.size + cx = (px_H0 E).size + w.1.1 →
    W p (px_l E) e R s m args below meth c H locs cx slots Z (F0 m pc lsA (st.map (px_v E)))
def px_W (E : px_E) (mt : pm_T) (d rc rs pc : Nat) (ls st : List Value) (w : pw_W) (Q : Option Value → pw_W → Prop) : Prop :=
  ∀ (p : Program) (e : Env) (R : Room) (s : State) (m : MethodId) (args : Array Value) (below : List Frame) (meth : Method) (c : Code) (Z : State → Prop) (cx : Nat) (H : Heap) (locs : List Loc) (cells slots : Nat) (lsA : Array Slot),
    px_C mt p s m args meth c → px_K E s → d ≤ R.frames ∧ 100 * d ≤ R.locals ∧ cx ≤ R.cells ∧ cells + rc = cx ∧ slots + rs ≤ R.slots ∧ s.heap.size + cells = (px_H0 E).size + w.1.1 → px_H E w H → (∀ q ∈ locs, px_A E q.base) → px_L E mt.2.2.1 lsA ls → px_Rt E mt p e R s m args below meth c Z cx Q →
    W p (px_l E) e R s m args below meth c H locs cells slots Z (F0 m pc lsA (st.map (px_v E)))
def px_ws0 (mt : pm_T) : List Cond := .code mt.1 mt.2.1 mt.2.2.1 mt.2.2.2 :: lw_gd
def px_rm (d mc ms : Nat) : Room := { frames := d, cells := mc, slots := ms, locals := 100 * d }
def px_Pc (E : px_E) (as : List Value) (w : pw_W) : Array Value → State → Prop := fun v U => v = (as.map (px_v E)).toArray ∧ px_K E U ∧ px_H E w U.heap ∧ U.heap.size = (px_H0 E).size + w.1.1
def px_Qc (E : px_E) (mc : Nat) (Q : Option Value → pw_W → Prop) : Array Value → State → Outcome → State → Prop := fun _ st o t => ∃ (r : Option Value) (w : pw_W), o = .returned (r.map (px_v E)) ∧ Q r w ∧ px_H E w t.heap ∧ st.heap.size + mc = (px_H0 E).size + w.1.1
/-- a call of the method, in this world: it returns, with Q -/
def px_Call (E : px_E) (d mc ms : Nat) (mt : pm_T) (as : List Value) (w : pw_W) (Q : Option Value → pw_W → Prop) : Prop :=
  Met (px_l E) mt.1 (px_ws0 mt) (px_rm d mc ms) (px_Pc E as w) (px_Qc E mc Q) mc ms (px_A E)
theorem px_W.weaken {E : px_E} {mt : pm_T} {d rc rs pc : Nat} {ls st : List Value} {w : pw_W} {Q Q' : Option Value → pw_W → Prop} (h : px_W E mt d rc rs pc ls st w Q) (hq : ∀ r u, Q r u → Q' r u) : px_W E mt d rc rs pc ls st w Q' :=
  fun p e R s m args below meth c Z cx H locs cells slots lsA a1 a2 a3 a4 a5 a6 a7 => h p e R s m args below meth c Z cx H locs cells slots lsA a1 a2 a3 a4 a5 a6 (fun r u pc lsA st H locs slots q => a7 r u pc lsA st H locs slots (hq r u q))
section PWR
variable {E : px_E} {mt : pm_T} {d rc rs pc : Nat} {ls st : List Value} {w : pw_W} {Q : Option Value → pw_W → Prop}
/-- one instruction that moves locals, stack and pc alone -/
theorem px_step {pc' : Nat} {ls' st' : List Value}
    (h : ∀ (p : Program) (e : Env) (R : Room) (s : State) (m : MethodId) (args : Array Value) (below : List Frame) (meth : Method) (c : Code) (Z : State → Prop) (H : Heap) (locs : List Loc) (cells slots : Nat) (lsA : Array Slot), px_C mt p s m args meth c → px_L E mt.2.2.1 lsA ls →
      (∀ lsB : Array Slot, px_L E mt.2.2.1 lsB ls' → W p (px_l E) e R s m args below meth c H locs cells slots Z (F0 m pc' lsB (st'.map (px_v E)))) → W p (px_l E) e R s m args below meth c H locs cells slots Z (F0 m pc lsA (st.map (px_v E))))
    (k : px_W E mt d rc rs pc' ls' st' w Q) : px_W E mt d rc rs pc ls st w Q := by
  intro p e R s m args below meth c Z cx H locs cells slots lsA hC hK hn hH hl hL hR
  exact h p e R s m args below meth c Z H locs cells slots lsA hC hL (fun lsB hB => k p e R s m args below meth c Z cx H locs cells slots lsB hC hK hn hH hl hB hR)
theorem px_iconst {n : Int} {v : Int32} (hd : decode mt.2.1 pc = .ok (.iconst n, 1)) (hv : Int32.ofInt n = v) (k : px_W E mt d rc rs (pc + 1) ls (.int v :: st) w Q) : px_W E mt d rc rs pc ls st w Q :=
  px_step (fun _ _ _ _ _ _ _ _ _ _ _ _ _ _ _ hC hL kk => lv_iconst hC.1 hC.2.1 hd hv (kk _ hL)) k
theorem px_bipush {n : Int} {v : Int32} (hd : decode mt.2.1 pc = .ok (.bipush n, 2)) (hv : (Int8.ofInt n).toInt32 = v) (k : px_W E mt d rc rs (pc + 2) ls (.int v :: st) w Q) : px_W E mt d rc rs pc ls st w Q :=
  px_step (fun _ _ _ _ _ _ _ _ _ _ _ _ _ _ _ hC hL kk => lv_bipush hC.1 hC.2.1 hd hv (kk _ hL)) k
theorem px_sipush {n : Int} {v : Int32} (hd : decode mt.2.1 pc = .ok (.sipush n, 3)) (hv : (Int16.ofInt n).toInt32 = v) (k : px_W E mt d rc rs (pc + 3) ls (.int v :: st) w Q) : px_W E mt d rc rs pc ls st w Q :=
  px_step (fun _ _ _ _ _ _ _ _ _ _ _ _ _ _ _ hC hL kk => lv_sipush hC.1 hC.2.1 hd hv (kk _ hL)) k
theorem px_lconst {n : Fin 2} {v : Int64} (hd : decode mt.2.1 pc = .ok (.lconst n, 1)) (hv : Int64.ofNat (n : Nat) = v) (k : px_W E mt d rc rs (pc + 1) ls (.long v :: st) w Q) : px_W E mt d rc rs pc ls st w Q :=
  px_step (fun _ _ _ _ _ _ _ _ _ _ _ _ _ _ _ hC hL kk => lv_lconst hC.1 hC.2.1 hd hv (kk _ hL)) k
theorem px_ldc {i : Nat} {v : Int32} (hd : decode mt.2.1 pc = .ok (.ldc i, 2)) (hw : Cond.constant mt.1.cls i v ∈ lw_gd) (k : px_W E mt d rc rs (pc + 2) ls (.int v :: st) w Q) : px_W E mt d rc rs pc ls st w Q :=
  px_step (fun _ _ _ _ _ _ _ _ _ _ _ _ _ _ _ hC hL kk => lv_ldc hC.1 hC.2.1 hC.2.2.2.2.1 (hC.2.2.2.2.2.1 _ hw) hd (kk _ hL)) k
theorem px_ldcw {i : Nat} {v : Int32} (hd : decode mt.2.1 pc = .ok (.ldc_w i, 3)) (hw : Cond.constant mt.1.cls i v ∈ lw_gd) (k : px_W E mt d rc rs (pc + 3) ls (.int v :: st) w Q) : px_W E mt d rc rs pc ls st w Q :=
  px_step (fun _ _ _ _ _ _ _ _ _ _ _ _ _ _ _ hC hL kk => lv_ldcw hC.1 hC.2.1 hC.2.2.2.2.1 (hC.2.2.2.2.2.1 _ hw) hd (kk _ hL)) k
theorem px_ldc2 {i : Nat} {v : Int64} (hd : decode mt.2.1 pc = .ok (.ldc2_w i, 3)) (hw : Cond.constantLong mt.1.cls i v ∈ lw_gd) (k : px_W E mt d rc rs (pc + 3) ls (.long v :: st) w Q) : px_W E mt d rc rs pc ls st w Q :=
  px_step (fun _ _ _ _ _ _ _ _ _ _ _ _ _ _ _ hC hL kk => lv_ldc2 hC.1 hC.2.1 hC.2.2.2.2.1 (hC.2.2.2.2.2.1 _ hw) hd (kk _ hL)) k
theorem px_iload_n {j : Fin 4} {i : Nat} {v : Int32} (hd : decode mt.2.1 pc = .ok (.iload_n j, 1)) (hi : (j : Nat) = i) (hl : ls[i]? = some (.int v)) (k : px_W E mt d rc rs (pc + 1) ls (.int v :: st) w Q) : px_W E mt d rc rs pc ls st w Q :=
  px_step (fun _ _ _ _ _ _ _ _ _ _ _ _ _ _ _ hC hL kk => lv_iload_n hC.1 hC.2.1 hd hi (hL.2.2 i _ hl (fun h => by cases h)) (kk _ hL)) k
theorem px_iload {i : Nat} {v : Int32} (hd : decode mt.2.1 pc = .ok (.iload i, 2)) (hl : ls[i]? = some (.int v)) (k : px_W E mt d rc rs (pc + 2) ls (.int v :: st) w Q) : px_W E mt d rc rs pc ls st w Q :=
  px_step (fun _ _ _ _ _ _ _ _ _ _ _ _ _ _ _ hC hL kk => lv_iload hC.1 hC.2.1 hd (hL.2.2 i _ hl (fun h => by cases h)) (kk _ hL)) k
theorem px_lload_n {j : Fin 4} {i : Nat} {v : Int64} (hd : decode mt.2.1 pc = .ok (.lload_n j, 1)) (hi : (j : Nat) = i) (hl : ls[i]? = some (.long v)) (k : px_W E mt d rc rs (pc + 1) ls (.long v :: st) w Q) : px_W E mt d rc rs pc ls st w Q :=
  px_step (fun _ _ _ _ _ _ _ _ _ _ _ _ _ _ _ hC hL kk => lv_lload_n hC.1 hC.2.1 hd hi (hL.2.2 i _ hl (fun h => by cases h)) (kk _ hL)) k
theorem px_aload_n {j : Fin 4} {i : Nat} {v : Nat} (hd : decode mt.2.1 pc = .ok (.aload_n j, 1)) (hi : (j : Nat) = i) (hl : ls[i]? = some (.ref v)) (k : px_W E mt d rc rs (pc + 1) ls (.ref v :: st) w Q) : px_W E mt d rc rs pc ls st w Q :=
  px_step (fun _ _ _ _ _ _ _ _ _ _ _ _ _ _ _ hC hL kk => lv_aload_n hC.1 hC.2.1 hd hi (hL.2.2 i _ hl (fun h => by cases h)) (kk _ hL)) k
theorem px_aload {i : Nat} {v : Nat} (hd : decode mt.2.1 pc = .ok (.aload i, 2)) (hl : ls[i]? = some (.ref v)) (k : px_W E mt d rc rs (pc + 2) ls (.ref v :: st) w Q) : px_W E mt d rc rs pc ls st w Q :=
  px_step (fun _ _ _ _ _ _ _ _ _ _ _ _ _ _ _ hC hL kk => lv_aload hC.1 hC.2.1 hd (hL.2.2 i _ hl (fun h => by cases h)) (kk _ hL)) k
theorem px_iadd {x y : Int32} (hd : decode mt.2.1 pc = .ok (.iadd, 1)) (k : px_W E mt d rc rs (pc + 1) ls (.int (x + y) :: st) w Q) : px_W E mt d rc rs pc ls (.int y :: .int x :: st) w Q :=
  px_step (fun _ _ _ _ _ _ _ _ _ _ _ _ _ _ _ hC hL kk => lv_iadd hC.1 hC.2.1 hd (kk _ hL)) k
theorem px_isub {x y : Int32} (hd : decode mt.2.1 pc = .ok (.isub, 1)) (k : px_W E mt d rc rs (pc + 1) ls (.int (x - y) :: st) w Q) : px_W E mt d rc rs pc ls (.int y :: .int x :: st) w Q :=
  px_step (fun _ _ _ _ _ _ _ _ _ _ _ _ _ _ _ hC hL kk => lv_isub hC.1 hC.2.1 hd (kk _ hL)) k
theorem px_imul {x y : Int32} (hd : decode mt.2.1 pc = .ok (.imul, 1)) (k : px_W E mt d rc rs (pc + 1) ls (.int (x * y) :: st) w Q) : px_W E mt d rc rs pc ls (.int y :: .int x :: st) w Q :=
  px_step (fun _ _ _ _ _ _ _ _ _ _ _ _ _ _ _ hC hL kk => lv_imul hC.1 hC.2.1 hd (kk _ hL)) k
theorem px_iand {x y : Int32} (hd : decode mt.2.1 pc = .ok (.iand, 1)) (k : px_W E mt d rc rs (pc + 1) ls (.int (x &&& y) :: st) w Q) : px_W E mt d rc rs pc ls (.int y :: .int x :: st) w Q :=
  px_step (fun _ _ _ _ _ _ _ _ _ _ _ _ _ _ _ hC hL kk => lv_iand hC.1 hC.2.1 hd (kk _ hL)) k
theorem px_ior {x y : Int32} (hd : decode mt.2.1 pc = .ok (.ior, 1)) (k : px_W E mt d rc rs (pc + 1) ls (.int (x ||| y) :: st) w Q) : px_W E mt d rc rs pc ls (.int y :: .int x :: st) w Q :=
  px_step (fun _ _ _ _ _ _ _ _ _ _ _ _ _ _ _ hC hL kk => lv_ior hC.1 hC.2.1 hd (kk _ hL)) k
theorem px_ixor {x y : Int32} (hd : decode mt.2.1 pc = .ok (.ixor, 1)) (k : px_W E mt d rc rs (pc + 1) ls (.int (x ^^^ y) :: st) w Q) : px_W E mt d rc rs pc ls (.int y :: .int x :: st) w Q :=
  px_step (fun _ _ _ _ _ _ _ _ _ _ _ _ _ _ _ hC hL kk => lv_ixor hC.1 hC.2.1 hd (kk _ hL)) k
end PWR
