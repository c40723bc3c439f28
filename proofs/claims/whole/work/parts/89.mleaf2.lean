section MFM
variable {E : px_E} {d : Nat} {w w0 : pw_W} {Q : Option Value → pw_W → Prop} {t : ct_T} {T : Nat → Nat} {n p u : Nat} {pr : List Int32} {D : DS}
theorem isFull_w (hG : MG t T n p (dFm D u pr) w0 w) (h22 : pw_I w 61 22 = nI u) (hu : u ≤ 30) : pX10_isFull w ↔ 30 ≤ u := by
  have g20 : pw_I w 61 20 = nI u := hG.2.2.2.2.2.2.1.1.2.2.2.2.2.2
  unfold pX10_isFull
  rw [g20, h22]
  constructor
  · rintro (h | h)
    · have := za_eq (b := 60) (by omega) (by decide) h; omega
    · have := za_eq (b := 30) (by omega) (by decide) h; omega
  · intro h
    right
    rw [show u = 30 by omega]; rfl
/-- a unit without brackets -/
theorem mLeaf {dp : Nat} {st : List Nat} (hS : MS0 T n w0) (hb : (dO D).testBit 3 = true) (hu : u ≤ 30) (hl : pr.length < 320) (hG : MG t T n p (dFm D u pr) w0 w) (hM : MF9 st dp w) (h22 : pw_I w 61 22 = nI u)
    (k1 : ¬ uAt T n p = -100 → ¬ 30 ≤ u → ∀ w', MG t T n (tE T n p) (dFm D (u + 1) (pr ++ [uAt T n p])) w0 w' → MF9 st dp w' → pw_I w' 61 22 = nI (u + 1) → Q none w')
    (k0 : (uAt T n p = -100 ∨ 30 ≤ u) → ∀ w', MBd t (rfu T n p) D w0 w' → Q none w') : px_W E mX10_unit (d + 4) 0 0 101 [.ref 61, .null, .null] [] w Q := by
  have hk := hG.2.2.2.1
  have s2 : pw_I w 61 6 = 2 ↔ tC T n p = 2 := by rw [hk.2.2.1]; exact mS_2
  have hq := asq_w hk
  have bad : (uAt T n p = -100 ∨ 30 ≤ u) → px_W E mX10_unit (d + 4) 0 0 133 [.ref 61, .null, .int (asq T n p)] [] w Q := fun h => by
    refine bX10_unit_133 hG.1 (tX10_wrongG (x := 2) rfl (by decide) hG hS.1 (fun w' b' _ => ?_))
    exact bX10_unit_138 b'.1 (fun z => absurd z b'.gt.1) (fun _ => k0 h w' (b'.np rfl rfl rfl))
  have good : ¬ uAt T n p = -100 → px_W E mX10_unit (d + 4) 0 0 126 [.ref 61, .null, .int (asq T n p)] [] w Q := fun hn => by
    refine bX10_unit_126 hG.1 (fun z => ?_) (fun z => bad (Or.inr ((isFull_w hG h22 hu).mp z)))
    have z30 : ¬ 30 ≤ u := fun q => z ((isFull_w hG h22 hu).mpr q)
    refine bX10_unit_138 hG.1 (fun _ => eX10_countUnit hG.1 ?_) (fun y => absurd hG.le y)
    have g1 := hG.unit
    have a1 : agF [] [20, 22] w (pw_sI (pw_sI w 61 20 (pw_I w 61 20 + 1)) 61 22 (pw_I w 61 22 + 1)) := (agF.sI (by decide)).tr (agF.sI (by decide))
    have m1 := hM.agF a1 List.not_mem_nil List.not_mem_nil ⟨by decide, by decide⟩
    have u1 : pw_I (pw_sI (pw_sI w 61 20 (pw_I w 61 20 + 1)) 61 22 (pw_I w 61 22 + 1)) 61 22 = nI (u + 1) := by rw [pw_same, h22, ← nI_succ]
    have fin : ∀ x y : Int32, mStp x y (uAt T n p) → tC T n p ≠ 1 → px_W E mX10_unit (d + 4) 0 0 172 [.ref 61, .null, .null] [.int y, .int x, .ref 61] (pw_sI (pw_sI w 61 20 (pw_I w 61 20 + 1)) 61 22 (pw_I w 61 22 + 1)) Q := fun x y hm hc => by
      refine bX10_unit_172 g1.1 (tX10_addG hm hl hb g1 (fun w2 g2 a2 => bX10_unit_175 g2.1 (tX10_tok hS g2 hc (fun w3 g3 a3 => bX10_unit_179 g3.1 (k1 hn z30 w3 g3 ?_ ?_)))))
      · exact (m1.agF a2 (by decide) (by decide) ⟨by decide, by decide⟩).agF a3 List.not_mem_nil List.not_mem_nil ⟨by decide, by decide⟩
      · rw [a3.F List.not_mem_nil (by decide), a2.F (by decide) (by decide)]; exact u1
    rcases asq_u (T := T) (n := n) (p := p) with ⟨h1, h2⟩ | ⟨h1, h2, j, hj, e1, e2⟩
    · have h2 : tC T n p = 2 := h2.resolve_right hn
      have ng : ¬ (0 : Int32) ≤ asq T n p := Int32.not_le.mpr h1
      have ev : uAt T n p = nI (tV T n p) := by unfold uAt; rw [if_pos h2]
      have tb := tC_2 h2
      refine bX10_unit_150 g1.1 (fun z => absurd z ng) (fun _ => bX10_unit_160 g1.1 (fun z => absurd z ng) (fun _ => ?_))
      refine fin 0 _ (Or.inl ⟨rfl, ?_, ?_⟩) (by omega)
      · rw [a1.F List.not_mem_nil (by decide), hk.2.2.2.2.1 h2, ev]
      · rw [ev]; exact nI_pos (by omega)
    · have ge : (0 : Int32) ≤ asq T n p := by rw [e1]; exact nI_le (a := 0) (by omega) (by omega)
      have hc : tC T n p ≠ 1 := fun q => hn (by unfold uAt; rw [if_neg (by omega), if_neg (by omega)])
      refine bX10_unit_150 g1.1 (fun _ => bX10_unit_160 g1.1 (fun _ => ?_) (fun z => absurd ge z)) (fun z => absurd ge z)
      exact fin 1 _ (Or.inr (Or.inl ⟨rfl, j, hj, e1, e2⟩)) hc
  refine bX10_unit_101 hG.1 (fun _ z => ?_) (fun _ z y => ?_) (fun _ z y => ?_) (fun z => absurd hG.le z) <;> rw [s2] at z
  · rw [hq]
    have tb := tC_2 z
    refine good (fun q => ?_)
    have ev : uAt T n p = nI (tV T n p) := by unfold uAt; rw [if_pos z]
    rw [ev] at q
    have := nI_pos (n := tV T n p) (by omega)
    rw [q] at this
    exact this (by decide)
  · rw [hq] at y ⊢
    rcases asq_u (T := T) (n := n) (p := p) with ⟨h1, h2⟩ | ⟨h1, _⟩
    · exact bad (Or.inl (h2.resolve_left z))
    · exact absurd y h1
  · rw [hq] at y ⊢
    rcases asq_u (T := T) (n := n) (p := p) with ⟨h1, _⟩ | ⟨_, _, j, hj, _, e2⟩
    · exact absurd h1 y
    · refine good (fun q => ?_)
      rw [e2] at q
      have : ∀ j, j < 5 → ¬ (-1 - nI j : Int32) = -100 := by decide
      exact this j hj q
end MFM
