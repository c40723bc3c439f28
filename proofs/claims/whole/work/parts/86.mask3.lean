section MFM
variable {E : px_E} {d : Nat} {w : pw_W} {Q : Option Value → pw_W → Prop} {t : ct_T} {T : Nat → Nat} {n p : Nat}
theorem mBrk {st : List Nat} {dp : Nat} (hw : w.1 = cs t) (hl : st.length ≤ 160) (hs : ∀ c ∈ st, c ∈ stS) (hM : MF9 st dp w) (k : Q (some (.int (jb (20 ∈ st)))) w) : ∀ m i (y : Int32), i + m = st.length → ((y = 1 ∧ ∃ j, j < i ∧ st.reverse.getD j 0 = 20) ∨ (y = 0 ∧ ∀ j, j < i → st.reverse.getD j 0 ≠ 20)) → px_W E mX10_hasBracket (d + 1) 0 0 4 [.ref 61, .int y, .int (nI i)] [] w Q := by
  have mem : ∀ j, j < st.length → st.reverse.getD j 0 ∈ st := fun j hj => by
    have h : j < st.reverse.length := by rw [List.length_reverse]; exact hj
    rw [List.getD_eq_getElem?_getD, List.getElem?_eq_getElem h]
    exact List.mem_reverse.mp (List.getElem_mem h)
  intro m
  induction m with
  | zero =>
    intro i y e hy
    have le : pw_I w 61 19 ≤ nI i := by rw [hM.1]; exact nI_le (by omega) (by omega)
    refine bX10_hasBracket_4 hw (fun _ => hy.elim (fun h => Or.inr h.1) (fun h => Or.inl h.1)) (fun _ => ?_) (fun z => absurd le z) (fun z => absurd le z)
    rcases hy with ⟨rfl, j, hj, ej⟩ | ⟨rfl, h⟩
    · rw [jb_t (p := 20 ∈ st) (by rw [← ej]; exact mem j (by omega))] at k
      exact k
    · rw [jb_f (p := 20 ∈ st) (fun z => by
        obtain ⟨j, hj, ej⟩ := List.getElem_of_mem (List.mem_reverse.mpr z)
        refine h j (by rw [List.length_reverse] at hj; omega) ?_
        rw [List.getD_eq_getElem?_getD, List.getElem?_eq_getElem hj]
        exact ej)] at k
      exact k
  | succ m ih =>
    intro i y e hy
    have nle : ¬ pw_I w 61 19 ≤ nI i := by rw [hM.1]; exact nI_ge (by omega) (by omega)
    have cb := emi_b _ (hs _ (mem i (by omega)))
    have v := hM.2.2 i (by omega)
    refine bX10_hasBracket_4 hw (fun z => absurd z nle) (fun z => absurd z nle) (fun _ z => ?_) (fun _ z => ?_)
    · refine bX10_hasBracket_27 hw (bX10_hasBracket_32 hw ?_)
      rw [← nI_succ]
      rcases hy with ⟨_, j, hj, ej⟩ | ⟨h0, _⟩
      · exact ih (i + 1) 1 (by omega) (Or.inl ⟨rfl, j, by omega, ej⟩)
      · exact absurd h0 z
    · refine bX10_hasBracket_16 hw i rfl (by omega) (fun q => ?_) (fun q => ?_) <;> rw [v] at q
      · have q : st.reverse.getD i 0 ≠ 20 := fun r => q (by rw [r]; rfl)
        refine bX10_hasBracket_32 hw ?_
        rw [← nI_succ]
        refine ih (i + 1) 0 (by omega) (Or.inr ⟨rfl, fun j hj => ?_⟩)
        rcases hy with ⟨h1, _⟩ | ⟨_, h⟩
        · rw [h1] at z; exact absurd z (by decide)
        · by_cases r : j = i
          · rw [r]; exact q
          · exact h j (by omega)
      · have q := za_eq (b := 20) (by omega) (by decide) q
        refine bX10_hasBracket_27 hw (bX10_hasBracket_32 hw ?_)
        rw [← nI_succ]
        exact ih (i + 1) 1 (by omega) (Or.inl ⟨rfl, i, by omega, q⟩)
theorem tX10_hasBracket {st : List Nat} {dp : Nat} (hw : w.1 = cs t) (hl : st.length ≤ 160) (hs : ∀ c ∈ st, c ∈ stS) (hM : MF9 st dp w) (k : Q (some (.int (jb (20 ∈ st)))) w) : px_Call E (d + 1) 0 0 mX10_hasBracket [.ref 61] w Q :=
  eX10_hasBracket hw (mBrk hw hl hs hM k st.length 0 0 (by omega) (Or.inr ⟨rfl, fun j hj => absurd hj (Nat.not_lt_zero j)⟩))
/-- what is asked for at p, 5 if nothing -/
def asq (T : Nat → Nat) (n p : Nat) : Int32 := if tC T n p = 4 then (if tV T n p = 15 then 0 else if tV T n p = 16 then 1 else if tV T n p = 17 then 2 else if tV T n p = 18 then 3 else if tV T n p = 19 then 4 else -1) else -1
theorem asq_w (hk : MTk T n p w) : hX10_asked w = asq T n p := by
  have k5 : pX10_isWord w 7305070 ↔ tC T n p = 4 ∧ tV T n p = 15 := hk.kw (x := 15) (by decide) (by decide)
  have k6 : pX10_isWord w 478694368626 ↔ tC T n p = 4 ∧ tV T n p = 16 := hk.kw (x := 16) (by decide) (by decide)
  have k7 : pX10_isWord w 1936683621 ↔ tC T n p = 4 ∧ tV T n p = 17 := hk.kw (x := 17) (by decide) (by decide)
  have k8 : pX10_isWord w 6578553 ↔ tC T n p = 4 ∧ tV T n p = 18 := hk.kw (x := 18) (by decide) (by decide)
  have k9 : pX10_isWord w 2003133803 ↔ tC T n p = 4 ∧ tV T n p = 19 := hk.kw (x := 19) (by decide) (by decide)
  unfold pX10_isWord at k5 k6 k7 k8 k9
  unfold hX10_asked asq
  by_cases h1 : pw_I w 61 6 = 1
  · simp only [h1, true_and] at k5 k6 k7 k8 k9
    rw [if_pos h1]
    simp only [k5, k6, k7, k8, k9]
    by_cases h4 : tC T n p = 4
    · simp only [h4, true_and, if_true]
    · simp only [h4, false_and, if_false]
  · have h4 : ¬ tC T n p = 4 := fun q => h1 (by rw [hk.2.2.1]; exact mS_1.mpr (Or.inr q))
    rw [if_neg h1, if_neg h4]
end MFM
