/-! the start: what the Statement gives -/
theorem st_classes {s : State} {args : Array Value} (h : ∀ w ∈ lw_gd, w.before args s = true) : ∃ (dC : Nat → ClassId) (dI : Nat → Nat → Nat), ∀ (k : Nat) (q : vw_C), vwCl[k]? = some q → u_Kn s q.1 q.2.1 q.2.2 (dC k) (dI k) := by
  have h0 : ∀ k : Nat, ∃ z : ClassId × (Nat → Nat), ∀ q : vw_C, vwCl[k]? = some q → u_Kn s q.1 q.2.1 q.2.2 z.1 z.2 := by
    intro k
    match k with
    | 0 =>
      obtain ⟨a, b, hh⟩ := u_known (C := RX0) (T := TX0) (N := 1) (n := 1) h inX0 (h (.instantiable RX0 1) (px_in2 126 rfl rfl))
      exact ⟨(a, b), fun q hq => by cases hq; exact hh⟩
    | 1 =>
      obtain ⟨a, b, hh⟩ := u_known (C := RX1) (T := TX1) (N := 4) (n := 4) h inX1 (h (.instantiable RX1 4) (px_in1 36 rfl rfl))
      exact ⟨(a, b), fun q hq => by cases hq; exact hh⟩
    | 2 =>
      obtain ⟨a, b, hh⟩ := u_known (C := RX2) (T := TX2) (N := 16) (n := 16) h inX2 (h (.instantiable RX2 16) (px_in1 30 rfl rfl))
      exact ⟨(a, b), fun q hq => by cases hq; exact hh⟩
    | 3 =>
      obtain ⟨a, b, hh⟩ := u_known (C := RX3) (T := TX3) (N := 3) (n := 3) h inX3 (h (.instantiable RX3 3) (px_in2 87 rfl rfl))
      exact ⟨(a, b), fun q hq => by cases hq; exact hh⟩
    | 4 =>
      obtain ⟨a, b, hh⟩ := u_known (C := RX4) (T := TX4) (N := 4) (n := 4) h inX4 (h (.instantiable RX4 4) (px_in2 103 rfl rfl))
      exact ⟨(a, b), fun q hq => by cases hq; exact hh⟩
    | 5 =>
      obtain ⟨a, b, hh⟩ := u_known (C := RX5) (T := TX5) (N := 7) (n := 7) h inX5 (h (.instantiable RX5 7) (px_in1 169 rfl rfl))
      exact ⟨(a, b), fun q hq => by cases hq; exact hh⟩
    | 6 =>
      obtain ⟨a, b, hh⟩ := u_known (C := RX6) (T := TX6) (N := 8) (n := 8) h inX6 (h (.instantiable RX6 8) (px_in1 175 rfl rfl))
      exact ⟨(a, b), fun q hq => by cases hq; exact hh⟩
    | 7 =>
      obtain ⟨a, b, hh⟩ := u_known (C := RX7) (T := TX7) (N := 12) (n := 12) h inX7 (h (.instantiable RX7 12) (px_in2 136 rfl rfl))
      exact ⟨(a, b), fun q hq => by cases hq; exact hh⟩
    | 8 =>
      obtain ⟨a, b, hh⟩ := u_known (C := RX8) (T := TX8) (N := 5) (n := 5) h inX8 (h (.instantiable RX8 5) (px_in2 50 rfl rfl))
      exact ⟨(a, b), fun q hq => by cases hq; exact hh⟩
    | 9 =>
      obtain ⟨a, b, hh⟩ := u_known (C := RX9) (T := TX9) (N := 15) (n := 15) h inX9 (h (.instantiable RX9 15) (px_in1 22 rfl rfl))
      exact ⟨(a, b), fun q hq => by cases hq; exact hh⟩
    | 10 =>
      obtain ⟨a, b, hh⟩ := u_known (C := RX10) (T := TX10) (N := 85) (n := 85) h inX10 (h (.instantiable RX10 85) (px_in5 207 rfl rfl))
      exact ⟨(a, b), fun q hq => by cases hq; exact hh⟩
    | k + 11 =>
      obtain ⟨a, b, hh⟩ := u_known (C := RX0) (T := TX0) (N := 1) (n := 1) h inX0 (h (.instantiable RX0 1) (px_in2 126 rfl rfl))
      exact ⟨(a, b), fun q hq => by simp [vwCl] at hq⟩
  obtain ⟨f, hf⟩ := Classical.axiomOfChoice h0
  exact ⟨fun k => (f k).1, fun k => (f k).2, hf⟩
theorem st_array {s : State} {args : Array Value} {ty : FieldType} (hn : ∀ C, ty ≠ .object C) (h : (Cond.arrayClass ty).before args s = true) : ∃ cA : ClassId, ArrOfT s cA ty ∧ va_RA s cA ty := by
  obtain ⟨cA, kA, comp, h1, h2, h3⟩ := Cond.arrayClass_spec h
  refine ⟨cA, fun n z => ⟨fun k h => (by cases h), kA, h2, comp, h3⟩, ?_⟩
  cases ty <;> first | exact h1 | exact absurd rfl (hn _)
theorem st_arrays {s : State} {args : Array Value} (h : ∀ w ∈ lw_gd, w.before args s = true) : ∃ cA : Nat → ClassId, ∀ (k : Nat) (q : ClassId × FieldType), [(cA 0, FieldType.int), (cA 1, FieldType.byte), (cA 2, FieldType.boolean), (cA 3, FieldType.long)][k]? = some q → ArrOfT s q.1 q.2 ∧ va_RA s q.1 q.2 := by
  obtain ⟨a0, h0⟩ := st_array (ty := .int) (fun C z => by cases z) (h _ (px_in1 57 rfl rfl))
  obtain ⟨a1, h1⟩ := st_array (ty := .byte) (fun C z => by cases z) (h _ (px_in1 56 rfl rfl))
  obtain ⟨a2, h2⟩ := st_array (ty := .boolean) (fun C z => by cases z) (h _ (px_in2 182 rfl rfl))
  obtain ⟨a3, h3⟩ := st_array (ty := .long) (fun C z => by cases z) (h _ (px_in2 22 rfl rfl))
  refine ⟨fun k => if k = 0 then a0 else if k = 1 then a1 else if k = 2 then a2 else a3, fun k q hq => ?_⟩
  match k, hq with
  | 0, hq => cases hq; exact h0
  | 1, hq => cases hq; exact h1
  | 2, hq => cases hq; exact h2
  | 3, hq => cases hq; exact h3
  | k + 4, hq => simp at hq
def stT (i : Nat) : Term := .string "NettleGreen$Scanner" (if i = 0 then 17 else 70)
def stF : List Cond := flatC (Jvm.Cond.and given_1 narrow_1)
theorem stF_1 : ∀ i, i < 2 → Cond.exactly (stT i) "java/lang/String" ∈ stF := by decide +kernel
theorem stF_2 : ∀ i, i < 2 → Cond.eq (.field (stT i) "java/lang/String" "coder" "B") (.int 0) ∈ stF := by decide +kernel
theorem stF_3 : ∀ i, i < 2 → Cond.arrayOf (.field (stT i) "java/lang/String" "value" "[B") .byte ∈ stF := by decide +kernel
theorem stF_4 : ∀ i, i < 2 → Cond.eq (.length (.field (stT i) "java/lang/String" "value" "[B")) (.int (Int32.ofNat (px_len.getD i 0))) ∈ stF := by decide +kernel
theorem stF_5 : ∀ i, i < 2 → ∀ j, j < px_len.getD i 0 → Cond.eq (.elem (.field (stT i) "java/lang/String" "value" "[B") (.int (Int32.ofNat j))) (.int ((px_byt.getD i []).getD j 0)) ∈ stF := by decide +kernel
theorem stF_6 : Cond.not (Cond.eq (stT 0) (stT 1)) ∈ stF := by decide +kernel
theorem stF_7 : Cond.eq (.static "java/lang/String" "COMPACT_STRINGS" "Z") (.int 1) ∈ stF := by decide +kernel
theorem stF_8 : Cond.isRef (.static "jdk/internal/util/Preconditions" "SIOOBE_FORMATTER" "Ljava/util/function/BiFunction;") ∈ stF := by decide +kernel
theorem st_texts {s : State} {args : Array Value} {A : Nat → Prop} (h : ∀ w ∈ stF, w.before args s = true) (hA : ∀ a : Nat, a < s.heap.size → ¬ A a) : ∃ adK adV : Nat → Nat, vk_S 2 px_len px_byt adK adV A s s.heap ∧ ∀ i : Nat, i < 2 → (stT i).eval args s none [] s = some (.ref (adK i)) := by
  refine vk_Sof (tm := stT) (by decide) (fun i hi => h _ (stF_1 i hi)) (fun i hi => h _ (stF_2 i hi)) (fun i hi => h _ (stF_3 i hi)) (fun i hi => h _ (stF_4 i hi)) (fun i hi j hj => h _ (stF_5 i hi j hj)) (fun i j hi hj e => ?_) hA
  have q : (i = 0 ∧ j = 1) ∨ (i = 1 ∧ j = 0) := by omega
  rcases q with ⟨rfl, rfl⟩ | ⟨rfl, rfl⟩
  · exact Or.inl (h _ stF_6)
  · exact Or.inr (h _ stF_6)
