section MFM
variable {E : px_E} {d : Nat} {w w0 : pw_W} {Q : Option Value → pw_W → Prop} {t : ct_T} {T : Nat → Nat} {n p u : Nat} {pr : List Int32} {D : DS}
theorem sgn_st (h : sgn T n p ≠ 0) : sgn T n p ∈ stS ∧ tC T n p ≠ 1 ∧ ¬ (tC T n p = 5 ∧ tV T n p = 41) := by
  unfold sgn at h ⊢
  by_cases h4 : tC T n p = 4
  · rw [if_pos h4] at h ⊢
    by_cases a : tV T n p = 13
    · rw [if_pos a]; exact ⟨by decide, by omega, by omega⟩
    · rw [if_neg a] at h ⊢
      by_cases b : tV T n p = 12
      · rw [if_pos b]; exact ⟨by decide, by omega, by omega⟩
      · rw [if_neg b] at h; exact absurd rfl h
  · rw [if_neg h4] at h ⊢
    by_cases h5 : tC T n p = 5
    · rw [if_pos h5] at h ⊢
      by_cases m : tV T n p ∈ [60, 62, 61, 43, 45, 42, 47, 37]
      · rw [if_pos m]
        refine ⟨(by decide : ∀ v ∈ [60, 62, 61, 43, 45, 42, 47, 37], v ∈ stS) _ m, by omega, fun z => ?_⟩
        rw [z.2] at m
        exact absurd m (by decide)
      · rw [if_neg m] at h; exact absurd rfl h
    · rw [if_neg h5] at h; exact absurd rfl h
/-- behind a unit: a sign that goes on -/
theorem mFo_sign {dp : Nat} {st : List Nat} (hS : MS0 T n w0) (hb : (dO D).testBit 3 = true) (hs : ∀ c ∈ st, c ∈ stS) (hl : st.length < 160) (hd1 : nts st ≤ dp) (hd2 : dp ≤ 100) (hp : pr.length + st.length < 320) (hG : MG t T n p (dFm D u pr) w0 w) (hM : MF9 st dp w) (h22 : pw_I w 61 22 = nI u) (h0 : sgn T n p ≠ 0) (hR : ¬ (tig (sgn T n p) = 4 ∧ hRel st = true)) (hcl : (clo (tig (sgn T n p)) st dp pr).1.length < 160)
    (k : ∀ w', MG t T n (tE T n p) (dFm D u (clo (tig (sgn T n p)) st dp pr).2.2) w0 w' → MF9 (sgn T n p :: (clo (tig (sgn T n p)) st dp pr).1) (clo (tig (sgn T n p)) st dp pr).2.1 w' → pw_I w' 61 22 = nI u → px_Call E (d + 4) 0 0 mX10_unit [.ref 61] w' (fun v w' => px_W E mX10_formula (d + 5) 0 0 154 [.ref 61, .int 1, .null] (v.toList ++ []) w' Q)) : px_W E mX10_formula (d + 5) 0 0 35 [.ref 61, .int 1, .null] [] w Q := by
  obtain ⟨hm, hc, h41⟩ := sgn_st h0
  have cb := emi_b _ hm
  have hk := hG.2.2.2.1
  have s41 : ¬ pw_I w 61 6 = 41 := fun z => h41 (by rw [hk.2.2.1] at z; exact (mS_5 (x := 41) (by decide)).mp z)
  have at118 : px_W E mX10_formula (d + 5) 0 0 118 [.ref 61, .int 1, .int (nI (sgn T n p))] [] w Q := by
    refine bX10_formula_118 hG.1 ?_
    rw [tig_w _ hm]
    refine tX10_close rfl cb.2 hb hs (by omega) hd1 hd2 hp hG hM (fun w1 g1 m1 a1 => ?_)
    refine bX10_formula_126 g1.1 _ m1.1 hcl ?_
    have a2 : agF [68] [19] w1 (pw_sI (pw_sI w1 68 (clo (tig (sgn T n p)) st dp pr).1.length (nI (sgn T n p))) 61 19 (pw_I w1 61 19 + 1)) := (agF.sC (by decide)).tr (agF.sI (by decide))
    have g2 := g1.stk a2 (fun a h => List.mem_singleton.mp h) (by decide)
    have m2 : MF9 (sgn T n p :: (clo (tig (sgn T n p)) st dp pr).1) (clo (tig (sgn T n p)) st dp pr).2.1 (pw_sI (pw_sI w1 68 (clo (tig (sgn T n p)) st dp pr).1.length (nI (sgn T n p))) 61 19 (pw_I w1 61 19 + 1)) := by
      refine m1.push ?_ ?_ ?_ (fun i hi => ?_)
      · rw [pw_same, m1.1, ← nI_succ]
      · rw [pw_oth (by decide), pw_oth (by omega)]; exact m1.2.1
      · rw [pw_oth (by omega), pw_same]
      · rw [pw_oth (by omega), pw_oth (by omega)]
    refine tX10_tok hS g2 hc (fun w3 g3 a3 => bX10_formula_150 g3.1 (k w3 g3 (m2.agF a3 List.not_mem_nil List.not_mem_nil ⟨by decide, by decide⟩) ?_))
    rw [a3.F List.not_mem_nil (by decide), a2.F (by decide) (by decide), a1.F (by decide) (by decide)]
    exact h22
  have nz : ¬ nI (sgn T n p) = 0 := fun z => h0 (za_eq (b := 0) (by omega) (by decide) z)
  refine bX10_formula_35 hG.1 (fun z => absurd z (by decide)) (fun _ z => absurd hG.2.2.2.2.1 z) (fun _ _ _ => ?_) (fun _ _ z => absurd z s41)
  rw [sgn_w hk]
  refine bX10_formula_99 hG.1 (fun z => absurd z nz) (fun _ _ => at118) (fun _ z => ?_)
  rw [tig_w _ hm] at z
  have z4 := za_eq (b := 4) (by omega) (by decide) z
  refine tX10_hasRelation hG.1 hs (by omega) hM ?_
  rw [jb_f (p := hRel st = true) (fun q => hR ⟨z4, q⟩)]
  exact bX10_formula_115 hG.1 (fun y => absurd rfl y) (fun _ => at118)
end MFM
