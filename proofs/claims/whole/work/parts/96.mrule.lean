/-! the reference's formula keeps the rules -/
section MRU
variable {E : px_E} {d : Nat} {w w0 : pw_W} {Q : Option Value → pw_W → Prop} {t : ct_T} {T : Nat → Nat} {n p u : Nat} {pr : List Int32} {D : DS}
def fL9 (E : px_E) (d : Nat) (t : ct_T) (T : Nat → Nat) (n : Nat) (D : DS) (w0 : pw_W) (Q : Option Value → pw_W → Prop) (p u : Nat) (st : List Nat) (dp : Nat) (pr : List Int32) : Prop := ∀ w, MG t T n p (dFm D u pr) w0 w → MF9 st dp w → pw_I w 61 22 = nI u → px_W E mX10_formula (d + 5) 0 0 35 [.ref 61, .int 1, .null] [] w Q
def fS9 (E : px_E) (d : Nat) (t : ct_T) (T : Nat → Nat) (n : Nat) (D : DS) (w0 : pw_W) (Q : Option Value → pw_W → Prop) (p u : Nat) (st : List Nat) (dp : Nat) (pr : List Int32) : Prop := ∀ (w : pw_W) (K : Option Value → pw_W → Prop), (∀ w', px_W E mX10_formula (d + 5) 0 0 35 [.ref 61, .int 1, .null] [] w' Q → w'.1 = cs t → K none w') → MG t T n p (dFm D u pr) w0 w → MF9 st dp w → pw_I w 61 22 = nI u → px_W E mX10_unit (d + 4) 0 0 2 [.ref 61, .int 1, .null] [] w K
theorem mFoB {e : Nat × Nat} {D' : DS} (hB : MBd t e D' w0 w) (k : Q none w) : px_W E mX10_formula (d + 5) 0 0 35 [.ref 61, .int 1, .null] [] w Q := by
  have h := hB.gt.2
  have f : px_W E mX10_formula (d + 5) 0 0 162 [.ref 61, .null, .null] [] w Q := bX10_formula_162 hB.1 (fun _ => bX10_formula_181 hB.1 (fun _ => bX10_formula_193 hB.1 k) (fun z => absurd z h)) (fun z => absurd z h)
  exact bX10_formula_35 hB.1 (fun _ => f) (fun _ _ => f) (fun _ z => absurd z h) (fun _ z => absurd z h)
theorem mFRu (hS : MS0 T n w0) (hb : (dO D).testBit 3 = true) : FRu T n (fS9 E d t T n D w0 Q) (fL9 E d t T n D w0 Q) (fun e => ∀ w', MBd t e D w0 w' → Q none w') (fun p u pr => ∀ w', MG t T n p (dFm D u pr) w0 w' → Q none w') := by
  refine ⟨fun p u st dp pr hI9 hu hl h14 hN k1 k0 => ?_, fun p u st dp pr hI9 hu hl hN k1 k2 k0 => ?_, fun p u st dp pr hI9 hu hl h0 hR k => ?_, fun p u st dp pr st2 dp2 pr2 hI9 hu hl h41 hin hc k => ?_, fun p u st dp pr hI9 hu hl h41 hR k0 k1 => ?_⟩
  · obtain ⟨i1, i2, i3, i4⟩ := hI9
    intro w K hK hG hM h22
    exact mUn_not hS i1 (by omega) (by omega) hG hM h22 h14 hN (fun q w' g' m' e' => k1 q w' K hK g' m' e') (fun q w' b' => hK w' (mFoB b' (k0 q w' b')) b'.1)
  · obtain ⟨i1, i2, i3, i4⟩ := hI9
    intro w K hK hG hM h22
    exact mUn_else hS hb i1 (by omega) (by omega) hu (by omega) hG hM h22 hN (fun q1 q2 q3 w' g' m' e' => k1 q1 q2 q3 w' K hK g' m' e') (fun q1 q2 q3 w' g' m' e' => hK w' (k2 q1 q2 q3 w' g' m' e') g'.1) (fun q1 q2 w' b' => hK w' (mFoB b' (k0 q1 q2 w' b')) b'.1)
  · obtain ⟨i1, i2, i3, i4⟩ := hI9
    intro w hG hM h22
    have cl := clo_len (k := tig (sgn T n p)) st dp pr
    exact mFo_sign hS hb i1 (by omega) i2 (by omega) hl hG hM h22 h0 hR (by omega) (fun w' g' m' e' => eX10_unit g'.1 (k w' _ (fun w2 h2 hw2 => bX10_formula_154 hw2 (bX10_formula_159 hw2 h2)) g' m' e'))
  · obtain ⟨i1, i2, i3, i4⟩ := hI9
    intro w hG hM h22
    have hk := hG.2.2.2.1
    have s41 : pw_I w 61 6 = 41 := by rw [hk.2.2.1]; exact (mS_5 (x := 41) (by decide)).mpr h41
    refine bX10_formula_35 hG.1 (fun z => absurd z (by decide)) (fun _ z => absurd hG.2.2.2.2.1 z) (fun _ _ z => absurd s41 z) (fun _ _ _ => ?_)
    refine tX10_hasBracket hG.1 (by omega) i1 hM ?_
    rw [jb_t hin]
    refine bX10_formula_64 hG.1 (fun z => absurd z (by decide)) (fun _ => tX10_close (k := 0) rfl (by decide) hb i1 (by omega) i2 (by omega) hl hG hM (fun w1 g1 m1 a1 => bX10_formula_72 g1.1 ?_))
    rw [hc] at g1 m1
    have e19 : pw_I w1 61 19 - 1 = nI st2.length := by
      rw [m1.1]; exact pk_sub (a := st2.length + 1) (b := 1) (by omega)
    have e23 : pw_I w1 61 23 - 1 = nI dp2 := by
      rw [m1.2.1]; exact pk_sub (a := dp2 + 1) (b := 1) (by omega)
    rw [e19, e23]
    have a2 : agF [] [19, 23] w1 (pw_sI (pw_sI w1 61 19 (nI st2.length)) 61 23 (nI dp2)) := (agF.sI (by decide)).tr (agF.sI (by decide))
    have g2 := g1.fld a2 (by decide) (by decide)
    have m2 : MF9 st2 dp2 (pw_sI (pw_sI w1 61 19 (nI st2.length)) 61 23 (nI dp2)) := m1.pop (by rw [pw_oth (by decide), pw_same]) pw_same (fun i => by rw [pw_oth (by omega), pw_oth (by omega)])
    refine tX10_tok hS g2 (by omega) (fun w3 g3 a3 => bX10_formula_96 g3.1 (bX10_formula_159 g3.1 (k w3 g3 (m2.agF a3 List.not_mem_nil List.not_mem_nil ⟨by decide, by decide⟩) ?_)))
    rw [a3.F List.not_mem_nil (by decide), a2.F List.not_mem_nil (by decide), a1.F (by decide) (by decide)]
    exact h22
  · obtain ⟨i1, i2, i3, i4⟩ := hI9
    intro w hG hM h22
    have hk := hG.2.2.2.1
    have f2 := hG.2.2.2.2.1
    have at162 : px_W E mX10_formula (d + 5) 0 0 162 [.ref 61, .null, .null] [] w Q := by
      refine bX10_formula_162 hG.1 (fun z => absurd f2 z) (fun _ => tX10_hasBracket hG.1 (by omega) i1 hM ?_)
      by_cases q : 20 ∈ st
      · rw [jb_t q]
        refine bX10_formula_173 hG.1 (fun z => absurd z (by decide)) (fun _ => tX10_wrongG (x := 2) rfl (by decide) hG hS.1 (fun w' b' _ => ?_))
        exact bX10_formula_181 b'.1 (fun _ => bX10_formula_193 b'.1 (k0 q w' (b'.np rfl rfl rfl))) (fun z => absurd z b'.gt.2)
      · rw [jb_f q]
        refine bX10_formula_173 hG.1 (fun _ => ?_) (fun z => absurd rfl z)
        refine bX10_formula_181 hG.1 (fun z => absurd f2 z) (fun _ => tX10_close (k := 0) rfl (by decide) hb i1 (by omega) i2 (by omega) hl hG hM (fun w1 g1 _ _ => bX10_formula_193 g1.1 (k1 q w1 g1)))
    have at157 : px_W E mX10_formula (d + 5) 0 0 157 [.ref 61, .null, .null] [] w Q :=
      bX10_formula_157 hG.1 (bX10_formula_159 hG.1 (bX10_formula_35 hG.1 (fun _ => at162) (fun z => absurd rfl z) (fun z => absurd rfl z) (fun z => absurd rfl z)))
    have at99 : px_W E mX10_formula (d + 5) 0 0 99 [.ref 61, .int 1, .int (hX10_sign w)] [] w Q := by
      rw [sgn_w hk]
      by_cases h0 : sgn T n p = 0
      · have z0 : nI (sgn T n p) = 0 := by rw [h0]; rfl
        exact bX10_formula_99 hG.1 (fun _ => at157) (fun z => absurd z0 z) (fun z => absurd z0 z)
      · have hm := (sgn_st h0).1
        have cb := emi_b _ hm
        have nz : ¬ nI (sgn T n p) = 0 := fun z => h0 (za_eq (b := 0) (by omega) (by decide) z)
        have z4 : hX10_tight (nI (sgn T n p)) = 4 := by rw [tig_w _ hm, (hR h0).1]; rfl
        refine bX10_formula_99 hG.1 (fun z => absurd z nz) (fun _ z => absurd z4 z) (fun _ _ => ?_)
        refine tX10_hasRelation hG.1 i1 (by omega) hM ?_
        rw [jb_t (p := hRel st = true) (hR h0).2]
        exact bX10_formula_115 hG.1 (fun _ => at157) (fun z => absurd z (by decide))
    refine bX10_formula_35 hG.1 (fun z => absurd z (by decide)) (fun _ z => absurd f2 z) (fun _ _ _ => at99) (fun _ _ z => ?_)
    have z := (mS_5 (T := T) (n := n) (p := p) (x := 41) (by decide)).mp (by rw [← hk.2.2.1]; exact z)
    refine tX10_hasBracket hG.1 (by omega) i1 hM ?_
    rw [jb_f (fun q => h41 ⟨z, q⟩)]
    exact bX10_formula_64 hG.1 (fun _ => at99) (fun y => absurd rfl y)
end MRU
