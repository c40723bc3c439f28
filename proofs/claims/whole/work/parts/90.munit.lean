section MFM
variable {E : px_E} {d : Nat} {w w0 : pw_W} {Q : Option Value → pw_W → Prop} {t : ct_T} {T : Nat → Nat} {n p u : Nat} {pr : List Int32} {D : DS}
/-- ahead of a unit, with a fault: it ends -/
theorem mUnB {e : Nat × Nat} {x : Int32} {D' : DS} (hB : MBd t e D' w0 w) (k : Q none w) : px_W E mX10_unit (d + 4) 0 0 2 [.ref 61, .int x, .null] [] w Q := by
  have f : px_W E mX10_unit (d + 4) 0 0 101 [.ref 61, .null, .null] [] w Q := bX10_unit_101 hB.1 (fun z => absurd z hB.gt.1) (fun z => absurd z hB.gt.1) (fun z => absurd z hB.gt.1) (fun _ => k)
  exact bX10_unit_2 hB.1 (fun _ => f) (fun _ _ => f) (fun _ z => absurd z hB.gt.2) (fun _ z => absurd z hB.gt.2)
/-- openUp with a fault -/
theorem tX10_openUpB {e : Nat × Nat} {v : Int32} {j : Nat} {D' : DS} (hB : MBd t e D' w0 w) (h19 : pw_I w 61 19 = nI j) (hj : j < 160) (k : ∀ w', MBd t e D' w0 w' → Q none w') : px_Call E (d + 1) 0 0 mX10_openUp [.ref 61, .int v] w Q := by
  have a1 : agF [68] [19, 23] w (pw_sI (pw_sI (pw_sI w 68 j v) 61 19 (pw_I w 61 19 + 1)) 61 23 (pw_I w 61 23 + 1)) := (agF.sC (by decide)).tr ((agF.sI (by decide)).tr (agF.sI (by decide)))
  have b2 := hB.agF a1 (by decide) (by decide) (by decide) (by decide)
  exact eX10_openUp hB.1 j h19 hj (fun _ => bX10_openUp_41 b2.1 (k _ b2)) (fun z => absurd z hB.gt.2)
/-- ahead of a unit: a not that may stand -/
theorem mUn_not {dp : Nat} {st : List Nat} (hS : MS0 T n w0) (hs : ∀ c ∈ st, c ∈ stS) (hl : st.length < 160) (hdp : dp ≤ 100) (hG : MG t T n p (dFm D u pr) w0 w) (hM : MF9 st dp w) (h22 : pw_I w 61 22 = nI u) (h14 : tC T n p = 4 ∧ tV T n p = 14) (hN : mNot st = true)
    (k1 : dp ≤ 6 → ∀ w', MG t T n (tE T n p) (dFm D u pr) w0 w' → MF9 (21 :: st) (dp + 1) w' → pw_I w' 61 22 = nI u → px_W E mX10_unit (d + 4) 0 0 2 [.ref 61, .int 1, .null] [] w' Q)
    (k0 : ¬ dp ≤ 6 → ∀ w', MBd t (rfu T n p) D w0 w' → Q none w') : px_W E mX10_unit (d + 4) 0 0 2 [.ref 61, .int 1, .null] [] w Q := by
  have kw : pX10_isWord w 7237492 ↔ tC T n p = 4 ∧ tV T n p = 14 := hG.2.2.2.1.kw (x := 14) (by decide) (by decide)
  refine bX10_unit_2 hG.1 (fun z => absurd z (by decide)) (fun _ z => absurd hG.2.2.2.2.1 z) (fun _ _ z => absurd (kw.mpr h14) z) (fun _ _ _ => ?_)
  refine tX10_mayNot hG.1 hs (by omega) hM ?_
  rw [jb_t (p := mNot st = true) hN]
  have le6 : pw_I w 61 23 ≤ 6 ↔ dp ≤ 6 := by
    rw [hM.2.1]
    exact ⟨fun z => za_le (b := 6) (by omega) (by decide) z, fun z => nI_le (b := 6) z (by decide)⟩
  refine bX10_unit_27 hG.1 (fun z => absurd z (by decide)) (fun _ z => ?_) (fun _ z => ?_) <;> rw [le6] at z
  · refine bX10_unit_44 hG.1 (tX10_openUp (c := 21) rfl hS hl (by omega) hG hM (fun w' g' m' e' => bX10_unit_50 g'.1 (k1 z w' g' m' (e'.trans h22))))
  · refine tX10_wrongG (x := 2) rfl (by decide) hG hS.1 (fun w' b' a' => bX10_unit_44 b'.1 ?_)
    refine tX10_openUpB b' ((a'.F List.not_mem_nil (by decide)).trans hM.1) hl (fun w2 b2 => bX10_unit_50 b2.1 (mUnB b2 (k0 z w2 (b2.np rfl rfl rfl))))
end MFM
