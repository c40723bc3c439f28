/-! the pure world: a count of cells, each cell's kind and length, its references; its ints; its longs -/
abbrev pw_C : Type := Nat × (Nat → Nat × Nat) × (Nat → Nat → Nat)
abbrev pw_W : Type := pw_C × (Nat → Nat → Int32) × (Nat → Nat → Int64)
def pw_sh (w : pw_W) (r : Nat) : Nat × Nat := w.1.2.1 r
def pw_R (w : pw_W) (r k : Nat) : Nat := w.1.2.2 r k
def pw_I (w : pw_W) (r k : Nat) : Int32 := w.2.1 r k
def pw_L (w : pw_W) (r k : Nat) : Int64 := w.2.2 r k
def pw_u2 {α : Type} (f : Nat → Nat → α) (r k : Nat) (v : α) : Nat → Nat → α := fun a b => if a = r ∧ b = k then v else f a b
def pw_sI (w : pw_W) (r k : Nat) (v : Int32) : pw_W := (w.1, pw_u2 w.2.1 r k v, w.2.2)
def pw_sL (w : pw_W) (r k : Nat) (v : Int64) : pw_W := (w.1, w.2.1, pw_u2 w.2.2 r k v)
def pw_sR (w : pw_W) (r k : Nat) (v : Nat) : pw_W := ((w.1.1, w.1.2.1, pw_u2 w.1.2.2 r k v), w.2)
/-- a whole row of ints anew -/
def pw_sA (w : pw_W) (r : Nat) (f : Nat → Int32) : pw_W := (w.1, (fun a => if a = r then f else w.2.1 a), w.2.2)
def pw_new (w : pw_W) (t : Nat × Nat) : pw_W := ((w.1.1 + 1, (fun a => if a = w.1.1 + 1 then t else w.1.2.1 a), (fun a => if a = w.1.1 + 1 then fun _ => 0 else w.1.2.2 a)), (fun a => if a = w.1.1 + 1 then fun _ => 0 else w.2.1 a), (fun a => if a = w.1.1 + 1 then fun _ => 0 else w.2.2 a))
/-! the frame of reference: launch, tables' numbers, the heap at the law's entry, addresses, array kinds, the script -/
abbrev px_E : Type := Launch × va_G × Heap × (Nat → Nat) × (Nat → ClassId) × Nat × (Nat → Int32)
abbrev px_l (E : px_E) : Launch := E.1
abbrev px_D (E : px_E) : va_G := E.2.1
abbrev px_H0 (E : px_E) : Heap := E.2.2.1
abbrev px_ad (E : px_E) : Nat → Nat := E.2.2.2.1
abbrev px_cA (E : px_E) : Nat → ClassId := E.2.2.2.2.1
abbrev px_sL (E : px_E) : Nat := E.2.2.2.2.2.1
abbrev px_sx (E : px_E) : Nat → Int32 := E.2.2.2.2.2.2
def px_v (E : px_E) : Value → Value
  | .ref a => .ref (px_ad E a)
  | v => v
def px_fv (E : px_E) (w : pw_W) (r k : Nat) (ty : FieldType) : Value := match ty with
  | .long => .long (pw_L w r k)
  | .object _ => if pw_R w r k = 0 then .null else .ref (px_ad E (pw_R w r k))
  | .array _ => if pw_R w r k = 0 then .null else .ref (px_ad E (pw_R w r k))
  | _ => .int (pw_I w r k)
def px_fs (E : px_E) (w : pw_W) (r c : Nat) : List Value := (List.range (px_N c)).map (fun k => px_fv E w r k (px_ty c k))
def px_e (E : px_E) (w : pw_W) (r : Nat) : va_E :=
  if (pw_sh w r).1 < 100 then .inr ((pw_sh w r).1, px_fs E w r (pw_sh w r).1)
  else if (pw_sh w r).1 = 103 then .inl (px_cA E 3, (pw_sh w r).2, .inr (.inl (pw_L w r)))
  else .inl (px_cA E ((pw_sh w r).1 - 100), (pw_sh w r).2, .inl (pw_I w r))
def px_ws (E : px_E) (w : pw_W) : va_W := (List.range w.1.1).map (fun j => (px_ad E (j + 1), px_e E w (j + 1)))
def px_tys (E : px_E) : List (ClassId × FieldType) := [(px_cA E 0, .int), (px_cA E 1, .byte), (px_cA E 2, .boolean), (px_cA E 3, .long)]
def px_A (E : px_E) : Nat → Prop := fun q => (px_H0 E).size ≤ q
/-- the words that name a private member of a nest mate -/
def px_nest : List Cond := lw_tbl.filter (fun w => match w with
  | .methodLinkNest _ _ _ _ => true
  | _ => false)
def px_tx0 : String := "person firm learns lumps meet on brother cools round bed flares draw or and not own other sore day week "
def px_tx1 : String := ";()<>=+-*/%"
def px_by (t : String) : List Int32 := t.toList.map (fun c => nI c.toNat)
def px_len : List Nat := [104, 11]
def px_byt : List (List Int32) := [px_by px_tx0, px_by px_tx1]
/-- the two texts, and what String reads of its statics -/
def px_str (E : px_E) (s : State) : Prop := vk_S 2 px_len px_byt (fun i => px_ad E (1000001 + i)) (fun i => px_ad E (1000003 + i)) (px_A E) s (px_H0 E) ∧ va_Z "java/lang/String" "COMPACT_STRINGS" "Z" (.int 1) (px_A E) s (px_H0 E)
def px_lit (E : px_E) (s : State) : Prop := vk_R "NettleGreen$Scanner" 17 px_tx0 (px_ad E 1000001) s ∧ vk_R "NettleGreen$Scanner" 70 px_tx1 (px_ad E 1000002) s ∧ ∃ x : Value, x.category = 1 ∧ va_Z "jdk/internal/util/Preconditions" "SIOOBE_FORMATTER" "Ljava/util/function/BiFunction;" (px_v E x) (px_A E) s (px_H0 E)
/-- what the tables say, and where the addresses are -/
def px_K (E : px_E) (s : State) : Prop := va_K (px_D E) vwCl (px_tys E) s ∧ (∀ r, r < 1000000 → px_ad E (r + 1) = (px_H0 E).size + r) ∧ px_ad E 0 < (px_H0 E).size ∧ va_X (px_ad E 0) (px_sL E) (px_sx E) s (px_H0 E) ∧ (∀ w ∈ px_nest, va_Nw w s) ∧ px_str E s ∧ px_lit E s
theorem px_nest_spec {w : Cond} (h : w ∈ px_nest) : ∃ a i x t, w = .methodLinkNest a i x t := by
  have h2 := (List.mem_filter.mp h).2
  cases w <;> first | exact ⟨_, _, _, _, rfl⟩ | (simp at h2)
theorem px_K.warm {E : px_E} {u U : State} (hW : u.WarmedH U.vm) (h : px_K E u) : px_K E U := by
  have hvm := hW.alike
  refine ⟨va_K.moved hvm h.1, h.2.1, h.2.2.1, va_X.moved hvm h.2.2.2.1, fun w hw => ?_, ⟨vk_S.moved hvm h.2.2.2.2.2.1.1, va_Z.moved hvm h.2.2.2.2.2.1.2⟩, vk_R.warm hW h.2.2.2.2.2.2.1, vk_R.warm hW h.2.2.2.2.2.2.2.1, h.2.2.2.2.2.2.2.2.elim fun x hx => ⟨x, hx.1, va_Z.moved hvm hx.2⟩⟩
  obtain ⟨a, i, x, t, rfl⟩ := px_nest_spec hw
  exact va_Nw.warmM hW (h.2.2.2.2.1 _ hw)
theorem px_K.same {E : px_E} {u U : State} (hv : U.vm = u.vm) (h : px_K E u) : px_K E U := by
  have hvm : u.vm.Alike U.vm := by rw [hv]; exact Vm.Alike.refl _
  refine ⟨va_K.moved hvm h.1, h.2.1, h.2.2.1, va_X.moved hvm h.2.2.2.1, fun w hw => ?_, ⟨vk_S.moved hvm h.2.2.2.2.2.1.1, va_Z.moved hvm h.2.2.2.2.2.1.2⟩, vk_R.same hv h.2.2.2.2.2.2.1, vk_R.same hv h.2.2.2.2.2.2.2.1, h.2.2.2.2.2.2.2.2.elim fun x hx => ⟨x, hx.1, va_Z.moved hvm hx.2⟩⟩
  obtain ⟨a, i, x, t, rfl⟩ := px_nest_spec hw
  exact va_Nw.same rfl hv.symm (h.2.2.2.2.1 _ hw)
/-- the heap holds the world -/
def px_H (E : px_E) (w : pw_W) (H : Heap) : Prop := va_P (px_D E) vwCl (px_ws E w) H ∧ (∀ q : Nat, q < (px_H0 E).size → H[q]? = (px_H0 E)[q]?) ∧ (px_H0 E).size ≤ H.size ∧ w.1.1 < 1000000 ∧ ∀ r, (pw_sh w r).1 < 200 → 1 ≤ r ∧ r ≤ w.1.1
theorem px_S {E : px_E} {w : pw_W} {H : Heap} {locs : List Loc} (h : px_H E w H) (hl : ∀ q ∈ locs, px_A E q.base) : va_S (px_A E) (px_H0 E) H locs := ⟨h.2.2.1, fun q h1 _ => h.2.1 q h1, hl⟩
theorem px_ws_at {E : px_E} {w : pw_W} {r : Nat} (h1 : 1 ≤ r) (h2 : r ≤ w.1.1) : (px_ws E w)[r - 1]? = some (px_ad E r, px_e E w r) := by
  unfold px_ws
  rw [List.getElem?_map, List.getElem?_range (by omega)]
  simp only [Option.map_some]
  rw [show r - 1 + 1 = r by omega]
theorem px_ws_get {E : px_E} {w : pw_W} {k : Nat} {q : Nat × va_E} (h : (px_ws E w)[k]? = some q) : k < w.1.1 ∧ q = (px_ad E (k + 1), px_e E w (k + 1)) := by
  unfold px_ws at h
  rw [List.getElem?_map] at h
  by_cases hk : k < w.1.1
  · rw [List.getElem?_range hk] at h
    exact ⟨hk, (Option.some.inj h).symm⟩
  · rw [List.getElem?_eq_none (by simpa using hk)] at h
    cases h
theorem px_Dd {E : px_E} {w : pw_W} {s : State} (hK : px_K E s) (hn : w.1.1 < 1000000) : va_D (px_A E) (px_ws E w) := by
  refine ⟨fun i j p q hi hj h => ?_, fun k q hk => ?_⟩
  · obtain ⟨h1, e1⟩ := px_ws_get hi
    obtain ⟨h2, e2⟩ := px_ws_get hj
    subst e1; subst e2
    dsimp only at h
    rw [hK.2.1 i (by omega), hK.2.1 j (by omega)] at h
    omega
  · obtain ⟨h1, e1⟩ := px_ws_get hk
    subst e1
    show (px_H0 E).size ≤ px_ad E (k + 1)
    rw [hK.2.1 k (by omega)]
    exact Nat.le_add_right _ _
/-- a world that differs in one cell -/
theorem px_ws_set {E : px_E} {w w' : pw_W} {r : Nat} (h1 : 1 ≤ r) (hn : w'.1.1 = w.1.1) (ho : ∀ a, a ≠ r → px_e E w' a = px_e E w a) : (px_ws E w).set (r - 1) (px_ad E r, px_e E w' r) = px_ws E w' := by
  apply List.ext_getElem?
  intro k
  by_cases hk : k = r - 1
  · subst hk
    by_cases hl : r - 1 < w.1.1
    · rw [List.getElem?_set_self (by simpa [px_ws] using hl), px_ws_at h1 (by omega)]
    · rw [List.getElem?_eq_none (by simp [px_ws]; omega), List.getElem?_eq_none (by simp [px_ws]; omega)]
  · rw [List.getElem?_set_ne (Ne.symm hk)]
    by_cases hl : k < w.1.1
    · have e1 := px_ws_at (E := E) (w := w) (r := k + 1) (by omega) (by omega)
      have e2 := px_ws_at (E := E) (w := w') (r := k + 1) (by omega) (by omega)
      rw [Nat.add_sub_cancel] at e1 e2
      rw [e1, e2, ho (k + 1) (by omega)]
    · rw [List.getElem?_eq_none (by simp [px_ws]; omega), List.getElem?_eq_none (by simp [px_ws]; omega)]
theorem px_H.step {E : px_E} {w w' : pw_W} {H H1 : Heap} {locs1 : List Loc} {ws1 : va_W} (h : px_H E w H) (hP : va_P (px_D E) vwCl ws1 H1) (he : ws1 = px_ws E w') (hS : va_S (px_A E) (px_H0 E) H1 locs1) (hn : w'.1.1 = w.1.1) (hs : ∀ r, pw_sh w' r = pw_sh w r) : px_H E w' H1 ∧ ∀ q ∈ locs1, px_A E q.base := by
  subst he
  exact ⟨⟨hP, fun q hq => hS.2.1 q hq (Nat.not_le.mpr hq), hS.1, by rw [hn]; exact h.2.2.2.1, fun r hr => by rw [hn]; exact h.2.2.2.2 r (by rw [← hs]; exact hr)⟩, hS.2.2⟩
/-! the locals -/
def px_L (E : px_E) (nL : Nat) (lsA : Array Slot) (ls : List Value) : Prop := lsA.size = nL ∧ lv_wf lsA ∧ ∀ (i : Nat) (v : Value), ls[i]? = some v → v ≠ .null → lsA[i]? = some (.val (px_v E v))
def px_al (E : px_E) : Nat → List Value → List (Nat × Value)
  | _, [] => []
  | i, v :: vs => if v = .null then px_al E (i + 1) vs else (i, px_v E v) :: px_al E (i + 1) vs
theorem px_al_mem {E : px_E} : ∀ (ls : List Value) (i : Nat) (q : Nat × Value), q ∈ px_al E i ls ↔ ∃ (j : Nat) (v : Value), ls[j]? = some v ∧ v ≠ .null ∧ q = (i + j, px_v E v)
  | [], i, q => by simp [px_al]
  | v :: vs, i, q => by
    have ih := px_al_mem (E := E) vs (i + 1) q
    unfold px_al
    by_cases hv : v = .null
    · rw [if_pos hv, ih]
      constructor
      · rintro ⟨j, u, h1, h2, h3⟩
        exact ⟨j + 1, u, by simpa using h1, h2, by rw [h3]; congr 1; omega⟩
      · rintro ⟨j, u, h1, h2, h3⟩
        cases j with
        | zero => simp at h1; exact absurd (h1.symm.trans hv) h2
        | succ j => exact ⟨j, u, by simpa using h1, h2, by rw [h3]; congr 1; omega⟩
    · rw [if_neg hv, List.mem_cons, ih]
      constructor
      · rintro (h | ⟨j, u, h1, h2, h3⟩)
        · exact ⟨0, v, by simp, hv, by rw [h]; rfl⟩
        · exact ⟨j + 1, u, by simpa using h1, h2, by rw [h3]; congr 1; omega⟩
      · rintro ⟨j, u, h1, h2, h3⟩
        cases j with
        | zero =>
          simp at h1
          subst h1
          exact Or.inl h3
        | succ j => exact Or.inr ⟨j, u, by simpa using h1, h2, by rw [h3]; congr 1; omega⟩
theorem px_L.has {E : px_E} {nL : Nat} {lsA : Array Slot} {ls : List Value} (h : px_L E nL lsA ls) : lv_has lsA nL (px_al E 0 ls) := by
  refine ⟨h.1, h.2.1, fun q hq => ?_⟩
  obtain ⟨j, v, h1, h2, h3⟩ := (px_al_mem ls 0 q).mp hq
  subst h3
  have := h.2.2 j v h1 h2
  rw [Nat.zero_add]
  exact this
theorem px_vcat {E : px_E} {v : Value} : (px_v E v).category = v.category := by cases v <;> rfl
theorem px_L.store1 {E : px_E} {nL i : Nat} {lsA : Array Slot} {ls : List Value} {v : Value} (h : px_L E nL lsA ls) (hi : i < nL) (hc : v.category = 1) (hp : ∀ (j : Nat) (u : Value), ls[j]? = some u → j + 1 = i → u.category = 1) :
    ∃ lsB, storeLocals lsA i (px_v E v) = some lsB ∧ px_L E nL lsB (ls.set i v) := by
  obtain ⟨lsB, h1, h2⟩ := lv_store1 (v := px_v E v) h.has hi (by rw [px_vcat]; exact hc)
  refine ⟨lsB, h1, h2.1, h2.2.1, fun j u hj hu => ?_⟩
  by_cases hji : i = j
  · subst hji
    have : i < ls.length := by
      have := (List.getElem?_eq_some_iff.mp hj).1
      simpa using this
    rw [List.getElem?_set_self this] at hj
    cases hj
    exact h2.2.2 (i, px_v E v) List.mem_cons_self
  · rw [List.getElem?_set_ne hji] at hj
    refine h2.2.2 (j, px_v E u) (List.mem_cons_of_mem _ (List.mem_filter.mpr ⟨(px_al_mem ls 0 _).mpr ⟨j, u, hj, hu, by rw [Nat.zero_add]⟩, ?_⟩))
    have e1 : (j == i) = false := beq_eq_false_iff_ne.mpr (Ne.symm hji)
    simp only [e1, Bool.not_false, Bool.true_and, Bool.not_eq_true', Bool.and_eq_false_iff]
    by_cases h3 : j + 1 = i
    · exact Or.inr (by rw [px_vcat, hp j u hj h3]; decide)
    · exact Or.inl (beq_eq_false_iff_ne.mpr h3)
/-- the heap has no fewer cells than the world -/
theorem px_H.low {E : px_E} {w : pw_W} {H : Heap} {s : State} (hK : px_K E s) (h : px_H E w H) : (px_H0 E).size + w.1.1 ≤ H.size := by
  by_cases h0 : w.1.1 = 0
  · rw [h0]; exact h.2.2.1
  · have h1 := (h.1 (w.1.1 - 1) _ (px_ws_at (by omega) (Nat.le_refl _))).lt
    have h2 := hK.2.1 (w.1.1 - 1) (by have := h.2.2.2.1; omega)
    rw [show w.1.1 - 1 + 1 = w.1.1 by omega] at h2
    dsimp only at h1
    rw [h2] at h1
    omega
