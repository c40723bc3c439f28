section MFM
variable {E : px_E} {d : Nat} {w : pw_W} {Q : Option Value → pw_W → Prop} {t : ct_T}
theorem stk_top {c : Nat} {st : List Nat} (h : ∀ i, i < (c :: st).length → pw_I w 68 i = nI ((c :: st).reverse.getD i 0)) : pw_I w 68 st.length = nI c ∧ ∀ i, i < st.length → pw_I w 68 i = nI (st.reverse.getD i 0) := by
  constructor
  · rw [h st.length (by show _ < st.length + 1; omega), List.reverse_cons, List.getD_eq_getElem?_getD, List.getElem?_append_right (by rw [List.length_reverse]; exact Nat.le_refl _), List.length_reverse, Nat.sub_self]
    rfl
  · intro i hi
    rw [h i (by show _ < st.length + 1; omega), List.reverse_cons, List.getD_eq_getElem?_getD, List.getElem?_append_left (by rw [List.length_reverse]; exact hi), ← List.getD_eq_getElem?_getD]
theorem mRel (hw : w.1 = cs t) (b : Bool) (k : Q (some (.int (jb (b = true)))) w) : ∀ st : List Nat, (∀ c ∈ st, c ∈ stS) → st.length ≤ 160 → (∀ i, i < st.length → pw_I w 68 i = nI (st.reverse.getD i 0)) → hRel st = b → px_W E mX10_hasRelation (d + 2) 0 0 7 [.ref 61, .int (nI st.length - 1)] [] w Q := by
  have no : b = false → px_W E mX10_hasRelation (d + 2) 0 0 73 [.null, .null] [] w Q := fun h => by
    rw [jb_f (p := b = true) (by rw [h]; decide)] at k
    exact bX10_hasRelation_73 hw (bX10_hasRelation_74 hw (Or.inl rfl) k)
  intro st
  induction st with
  | nil =>
    intro _ _ _ hb
    have hb : b = false := hb.symm
    have lt : nI ([] : List Nat).length - 1 < 0 := by decide
    exact bX10_hasRelation_7 hw (fun _ => bX10_hasRelation_41 hw (fun _ => no hb) (fun z => absurd lt z)) (fun z => absurd lt z)
  | cons c st ih =>
    intro hs hl hr hb
    have hl : st.length + 1 ≤ 160 := hl
    obtain ⟨tp, rs⟩ := stk_top hr
    have hc := hs c (List.mem_cons_self)
    have cb := emi_b c hc
    have e1 : nI (c :: st).length - 1 = nI st.length := by show nI (st.length + 1) - 1 = _; exact pk_sub (b := 1) (by omega)
    rw [e1]
    have ge : ¬ nI st.length < 0 := nI_pos (by omega)
    have at41 : px_W E mX10_hasRelation (d + 2) 0 0 45 [.ref 61, .int (nI st.length)] [] w Q → px_W E mX10_hasRelation (d + 2) 0 0 41 [.ref 61, .int (nI st.length)] [] w Q := fun q => bX10_hasRelation_41 hw (fun z => absurd z ge) (fun _ => q)
    refine bX10_hasRelation_7 hw (fun z => absurd z ge) (fun _ => ?_)
    refine bX10_hasRelation_11 hw st.length rfl (by omega) (fun z => ?_) (fun z => ?_)
    · have z2 := z
      rw [tp] at z2
      have c20 := za_eq (b := 20) (by omega) (by decide) z2
      have bf : b = false := by rw [← hb, hRel, if_pos c20]
      exact at41 (bX10_hasRelation_45 hw st.length rfl (by omega) (fun _ => no bf) (fun y => absurd z y))
    · have z2 := z
      rw [tp] at z2
      have c20 : c ≠ 20 := fun q => z2 (by rw [q]; rfl)
      refine bX10_hasRelation_22 hw st.length rfl (by omega) (fun y => ?_) (fun y => ?_) <;> rw [tp, tig_w c hc] at y
      · have y := za_le (b := 4) (by omega) (by decide) y
        have bd : b = decide (tig c = 4) := by rw [← hb, hRel, if_neg c20, if_pos y]
        refine at41 (bX10_hasRelation_45 hw st.length rfl (by omega) (fun q => absurd q z) (fun _ => ?_))
        refine bX10_hasRelation_56 hw st.length rfl (by omega) (fun q => ?_) (fun q => ?_) <;> rw [tp, tig_w c hc] at q
        · have q : tig c ≠ 4 := fun r => q (by rw [r]; rfl)
          exact no (by rw [bd]; exact decide_eq_false q)
        · have q := za_eq (b := 4) (by omega) (by decide) q
          rw [jb_t (p := b = true) (by rw [bd]; exact decide_eq_true q)] at k
          exact bX10_hasRelation_74 hw (Or.inr rfl) k
      · have y : ¬ tig c ≤ 4 := fun r => y (nI_le (b := 4) r (by decide))
        have e2 : nI st.length + (-1) = nI st.length - 1 := by rw [Int32.sub_eq_add_neg]
        rw [e2]
        exact ih (fun x hx => hs x (List.mem_cons_of_mem _ hx)) (by omega) rs (by rw [← hb, hRel, if_neg c20, if_neg y])
theorem tX10_hasRelation {st : List Nat} {dp : Nat} (hw : w.1 = cs t) (hs : ∀ c ∈ st, c ∈ stS) (hl : st.length ≤ 160) (hM : MF9 st dp w) (k : Q (some (.int (jb (hRel st = true)))) w) : px_Call E (d + 2) 0 0 mX10_hasRelation [.ref 61] w Q := by
  refine eX10_hasRelation hw ?_
  rw [hM.1]
  exact mRel hw (hRel st) k st hs hl hM.2.2 rfl
end MFM
