section MFM
variable {E : px_E} {d : Nat} {w w0 : pw_W} {Q : Option Value → pw_W → Prop} {t : ct_T} {T : Nat → Nat} {n p u : Nat} {pr : List Int32} {D : DS}
/-- ahead of a unit, where no not may stand -/
theorem mUn_else {dp : Nat} {st : List Nat} (hS : MS0 T n w0) (hb : (dO D).testBit 3 = true) (hs : ∀ c ∈ st, c ∈ stS) (hl : st.length < 160) (hdp : dp ≤ 100) (hu : u ≤ 30) (hpl : pr.length < 320) (hG : MG t T n p (dFm D u pr) w0 w) (hM : MF9 st dp w) (h22 : pw_I w 61 22 = nI u) (hN : ¬ ((tC T n p = 4 ∧ tV T n p = 14) ∧ mNot st = true))
    (k1 : tC T n p = 5 ∧ tV T n p = 40 → ¬ 30 ≤ u → dp ≤ 6 → ∀ w', MG t T n (tE T n p) (dFm D (u + 1) pr) w0 w' → MF9 (20 :: st) (dp + 1) w' → pw_I w' 61 22 = nI (u + 1) → px_W E mX10_unit (d + 4) 0 0 2 [.ref 61, .int 1, .null] [] w' Q)
    (k2 : ¬ (tC T n p = 5 ∧ tV T n p = 40) → ¬ uAt T n p = -100 → ¬ 30 ≤ u → ∀ w', MG t T n (tE T n p) (dFm D (u + 1) (pr ++ [uAt T n p])) w0 w' → MF9 st dp w' → pw_I w' 61 22 = nI (u + 1) → Q none w')
    (k0 : (tC T n p = 5 ∧ tV T n p = 40 → 30 ≤ u ∨ ¬ dp ≤ 6) → (¬ (tC T n p = 5 ∧ tV T n p = 40) → uAt T n p = -100 ∨ 30 ≤ u) → ∀ w', MBd t (rfu T n p) D w0 w' → Q none w') : px_W E mX10_unit (d + 4) 0 0 2 [.ref 61, .int 1, .null] [] w Q := by
  have kw : pX10_isWord w 7237492 ↔ tC T n p = 4 ∧ tV T n p = 14 := hG.2.2.2.1.kw (x := 14) (by decide) (by decide)
  have s40 : pw_I w 61 6 = 40 ↔ tC T n p = 5 ∧ tV T n p = 40 := by rw [hG.2.2.2.1.2.2.1]; exact mS_5 (x := 40) (by decide)
  have le6 : pw_I w 61 23 ≤ 6 ↔ dp ≤ 6 := by
    rw [hM.2.1]
    exact ⟨fun z => za_le (b := 6) (by omega) (by decide) z, fun z => nI_le (b := 6) z (by decide)⟩
  have fl := isFull_w hG h22 hu
  have at78 : (tC T n p = 5 ∧ tV T n p = 40) → (30 ≤ u ∨ ¬ dp ≤ 6) → px_W E mX10_unit (d + 4) 0 0 78 [.ref 61, .int 1, .null] [] w Q := fun h h2 => by
    refine bX10_unit_78 hG.1 (tX10_wrongG (x := 2) rfl (by decide) hG hS.1 (fun w' b' a' => bX10_unit_83 b'.1 (eX10_countUnit b'.1 ?_)))
    have a1 : agF [] [20, 22] w' (pw_sI (pw_sI w' 61 20 (pw_I w' 61 20 + 1)) 61 22 (pw_I w' 61 22 + 1)) := (agF.sI (by decide)).tr (agF.sI (by decide))
    have b2 := b'.agF a1 List.not_mem_nil (fun a h => absurd h List.not_mem_nil) (by decide) (by decide)
    refine bX10_unit_87 b2.1 (tX10_openUpB b2 (((a1.F List.not_mem_nil (by decide)).trans (a'.F List.not_mem_nil (by decide))).trans hM.1) hl (fun w3 b3 => bX10_unit_93 b3.1 (mUnB b3 (k0 (fun _ => h2) (fun q => absurd h q) w3 (b3.np rfl rfl rfl)))))
  have at53 : px_W E mX10_unit (d + 4) 0 0 53 [.ref 61, .int 1, .null] [] w Q := by
    refine bX10_unit_53 hG.1 (fun z => ?_) (fun z y => ?_) (fun z y x => ?_) (fun z _ x => ?_) <;> rw [s40] at z
    · have lf : px_W E mX10_unit (d + 4) 0 0 101 [.ref 61, .null, .null] [] w Q := mLeaf hS hb hu hpl hG hM h22 (fun a b => k2 z a b) (fun a => k0 (fun q => absurd q z) (fun _ => a))
      exact bX10_unit_2 hG.1 (fun _ => lf) (fun y => absurd rfl y) (fun y => absurd rfl y) (fun y => absurd rfl y)
    · exact at78 z (Or.inl (fl.mp y))
    · have n30 : ¬ 30 ≤ u := fun q => y (fl.mpr q)
      rw [le6] at x
      have g1 := hG.unit
      have a1 : agF [] [20, 22] w (pw_sI (pw_sI w 61 20 (pw_I w 61 20 + 1)) 61 22 (pw_I w 61 22 + 1)) := (agF.sI (by decide)).tr (agF.sI (by decide))
      have m1 := hM.agF a1 List.not_mem_nil List.not_mem_nil ⟨by decide, by decide⟩
      have u1 : pw_I (pw_sI (pw_sI w 61 20 (pw_I w 61 20 + 1)) 61 22 (pw_I w 61 22 + 1)) 61 22 = nI (u + 1) := by rw [pw_same, h22, ← nI_succ]
      refine bX10_unit_83 hG.1 (eX10_countUnit hG.1 (bX10_unit_87 g1.1 (tX10_openUp (c := 20) rfl hS hl (by omega) g1 m1 (fun w' g' m' e' => bX10_unit_93 g'.1 (k1 z n30 x w' g' m' (e'.trans u1))))))
    · rw [le6] at x
      exact at78 z (Or.inr x)
  refine bX10_unit_2 hG.1 (fun z => absurd z (by decide)) (fun _ z => absurd hG.2.2.2.2.1 z) (fun _ _ _ => at53) (fun _ _ z => ?_)
  refine tX10_mayNot hG.1 hs (by omega) hM ?_
  have mf : ¬ mNot st = true := fun q => hN ⟨kw.mp z, q⟩
  rw [jb_f (p := mNot st = true) mf]
  exact bX10_unit_27 hG.1 (fun _ => at53) (fun y => absurd rfl y) (fun y => absurd rfl y)
end MFM
