section MFM
variable {E : px_E} {d : Nat} {w w0 : pw_W} {Q : Option Value → pw_W → Prop} {t : ct_T} {T : Nat → Nat} {n p u : Nat} {pr : List Int32} {D : DS}
theorem MF9.push {c : Nat} {st : List Nat} {dp dp' : Nat} {w' : pw_W} (h : MF9 st dp w) (h1 : pw_I w' 61 19 = nI (st.length + 1)) (h2 : pw_I w' 61 23 = nI dp') (h3 : pw_I w' 68 st.length = nI c) (h4 : ∀ i, i < st.length → pw_I w' 68 i = pw_I w 68 i) : MF9 (c :: st) dp' w' := by
  refine ⟨h1, h2, fun i hi => ?_⟩
  have hi : i < st.length + 1 := hi
  rw [List.reverse_cons]
  by_cases e : i = st.length
  · rw [e, h3, List.getD_eq_getElem?_getD, List.getElem?_append_right (by rw [List.length_reverse]; exact Nat.le_refl _), List.length_reverse, Nat.sub_self]
    rfl
  · rw [h4 i (by omega), h.2.2 i (by omega), List.getD_eq_getElem?_getD, List.getD_eq_getElem?_getD, List.getElem?_append_left (by rw [List.length_reverse]; omega)]
theorem MG.stk {S F : List Nat} {w' : pw_W} (hG : MG t T n p D w0 w) (ha : agF S F w w') (hs : ∀ a ∈ S, a = 68) (hf : ∀ a ∈ F, a ∈ [19, 22, 23]) : MG t T n p D w0 w' := by
  obtain ⟨hw, hA, hp, hk, f2, f3, hX⟩ := hG
  have n61 : 61 ∉ S := fun z => by have := hs 61 z; omega
  have fn : ∀ a, a ∉ [19, 22, 23] → a ∉ F := fun a h z => h (hf a z)
  refine ⟨ha.1.trans hw, hA.tr (ha.mono (fun a h => by rw [hs a h]; decide) (fun a h => (by decide : ∀ a ∈ [19, 22, 23], a ∈ pfM) a (hf a h))), hp, hk.agF ha n61 (fun a h => fn a (by revert a; decide)), (ha.F n61 (fn 2 (by decide))).trans f2, (ha.F n61 (fn 3 (by decide))).trans f3, hX.agF ha (fun a h z => ?_) (fun a h => fn a (by revert a; decide))⟩
  have := hs a z
  rw [this] at h
  exact absurd h (by decide)
theorem tX10_openUp {c dp : Nat} {st : List Nat} {v : Int32} (hv : v = nI c) (hS : MS0 T n w0) (hl : st.length < 160) (hc : tC T n p ≠ 1) (hG : MG t T n p D w0 w) (hM : MF9 st dp w) (k : ∀ w', MG t T n (tE T n p) D w0 w' → MF9 (c :: st) (dp + 1) w' → pw_I w' 61 22 = pw_I w 61 22 → Q none w') : px_Call E (d + 3) 0 0 mX10_openUp [.ref 61, .int v] w Q := by
  subst hv
  have a1 : agF [68] [19, 23] w (pw_sI (pw_sI (pw_sI w 68 st.length (nI c)) 61 19 (pw_I w 61 19 + 1)) 61 23 (pw_I w 61 23 + 1)) := (agF.sC (by decide)).tr ((agF.sI (by decide)).tr (agF.sI (by decide)))
  have g1 := hG.stk a1 (fun a h => List.mem_singleton.mp h) (by decide)
  have m1 : MF9 (c :: st) (dp + 1) (pw_sI (pw_sI (pw_sI w 68 st.length (nI c)) 61 19 (pw_I w 61 19 + 1)) 61 23 (pw_I w 61 23 + 1)) := by
    refine hM.push ?_ ?_ ?_ (fun i hi => ?_)
    · rw [pw_oth (by decide), pw_same, hM.1, ← nI_succ]
    · rw [pw_same, hM.2.1, ← nI_succ]
    · rw [pw_oth (by omega), pw_oth (by omega), pw_same]
    · rw [pw_oth (by omega), pw_oth (by omega), pw_oth (by omega)]
  refine eX10_openUp hG.1 st.length hM.1 hl (fun z => absurd hG.2.2.2.2.1 z) (fun _ => ?_)
  refine tX10_tok hS g1 hc (fun w2 g2 a2 => bX10_openUp_41 g2.1 (k w2 g2 (m1.agF a2 List.not_mem_nil List.not_mem_nil ⟨by decide, by decide⟩) ?_))
  rw [a2.F List.not_mem_nil (by decide), a1.F (by decide) (by decide)]
end MFM
