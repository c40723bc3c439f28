/-! the class reads a formula -/
theorem RXD.fm {D : DS} {u u' x : Nat} {pr pr' : List Int32} {w w' : pw_W} {r : Nat} (h : RXD (dH (dFm D u pr)) x w r) (e : ∀ c, c ≤ 9 → ∀ b, pw_I w' (r + c) b = pw_I w (r + c) b) (h2 : pw_I w' (r + 10) 2 = nI pr'.length) (h3 : pw_I w' (r + 10) 3 = nI u') (h4 : ∀ i, i < pr'.length → pw_I w' (r + 11) i = pr'.getD i 0) : RXD (dH (dFm D u' pr')) x w' r := by
  obtain ⟨⟨a, b1, b2, b3, b4, -, -, -⟩, h8⟩ := h
  have e0 : ∀ b, pw_I w' r b = pw_I w r b := fun b => e 0 (by decide) b
  have o : ∀ v : Int32, ∀ c, c ≤ 9 → ∀ b, pw_I (pw_sI w' r 8 v) (r + c) b = pw_I (pw_sI w r 8 v) (r + c) b := fun v c hc b => by rw [pw_I_sI, pw_I_sI, e c hc]
  have o0 : ∀ v : Int32, ∀ b, pw_I (pw_sI w' r 8 v) r b = pw_I (pw_sI w r 8 v) r b := fun v b => o v 0 (by decide) b
  have on : ∀ v : Int32, ∀ c b, 1 ≤ c → pw_I (pw_sI w' r 8 v) (r + c) b = pw_I w' (r + c) b := fun v c b hc => pw_oth (fun z _ => by omega)
  refine ⟨⟨?_, fun i hi => ?_, fun i hi => ?_, fun i hi => ?_, fun b hb k hk => ?_, ?_, ?_, fun i hi => ?_⟩, (e0 8).trans h8⟩
  · simp only [o0]; exact a
  · rw [o _ 1 (by decide), o _ 2 (by decide), o _ 3 (by decide)]; exact b1 i hi
  · rw [o _ 4 (by decide), o _ 5 (by decide), o _ 6 (by decide)]; exact b2 i hi
  · rw [o _ 7 (by decide), o _ 8 (by decide)]; exact b3 i hi
  · rw [o _ 9 (by decide)]; exact b4 b hb k hk
  · rw [on _ _ _ (by decide)]; exact h2
  · rw [on _ _ _ (by decide)]; exact h3
  · rw [on _ _ _ (by decide)]; exact h4 i hi
section XFM
variable {E : px_E} {d : Nat} {w w0 : pw_W} {Q : Option Value → pw_W → Prop} {t : ct_T} {T : Nat → Nat} {n p : Nat} {D : DS}
theorem XG.fm {u u' : Nat} {pr pr' : List Int32} {w' : pw_W} (ht : is_Hamlet t.2.1) (hG : XG t T n p (dFm D u pr) w0 w) (ha : ag [t.2.1 + 10, t.2.1 + 11] w w') (h2 : pw_I w' (t.2.1 + 10) 2 = nI pr'.length) (h3 : pw_I w' (t.2.1 + 10) 3 = nI u') (h4 : ∀ i, i < pr'.length → pw_I w' (t.2.1 + 11) i = pr'.getD i 0) : XG t T n p (dFm D u' pr') w0 w' := by
  obtain ⟨hw, hA, hp, hk, f5, f6, hX, x1, x2, x3⟩ := hG
  have q1 := dX_ne ht (c := 10) (by decide)
  have q2 := dX_ne ht (c := 11) (by decide)
  have nn : ∀ a ∈ [16, 17, 20, 21], a ∉ [t.2.1 + 10, t.2.1 + 11] := fun a h z => by
    simp at h z
    omega
  refine ⟨ha.1.trans hw, hA.tr (ha.mono (fun a h => ?_)), hp, hk.ag ha (nn 17 (by decide)), (ha.I (nn 16 (by decide)) 5).trans f5, (ha.I (nn 16 (by decide)) 6).trans f6, RXD.fm hX (fun c hc b => ha.I (fun z => ?_) b) h2 h3 h4, fun i hi => (ha.L (nn 20 (by decide)) i).trans (x1 i hi), fun i hi => (ha.L (nn 21 (by decide)) i).trans (x2 i hi), (ha.I (nn 16 (by decide)) 4).trans x3⟩
  · simp at h
    rcases h with rfl | rfl
    · exact dX_in (by decide)
    · exact dX_in (by decide)
  · simp at z; omega
theorem fm_len {u : Nat} {pr : List Int32} (hG : XG t T n p (dFm D u pr) w0 w) : pw_I w (t.2.1 + 10) 2 = nI pr.length ∧ pw_I w (t.2.1 + 10) 3 = nI u ∧ ∀ i, i < pr.length → pw_I w (t.2.1 + 11) i = pr.getD i 0 := by
  obtain ⟨⟨-, -, -, -, -, h1, h2, h3⟩, -⟩ := hG.2.2.2.2.2.2.1
  rw [pw_oth (fun z _ => by omega)] at h1 h2
  exact ⟨h1, h2, fun i hi => by have := h3 i hi; rw [pw_oth (fun z _ => by omega)] at this; exact this⟩
theorem isF (ht : is_Hamlet t.2.1) : is_Formula (t.2.1 + 10) := by
  rcases ht with e | e <;> rw [e]
  · exact Or.inl rfl
  · exact Or.inr rfl
theorem tX1_addG {u : Nat} {pr : List Int32} {v : Int32} (ht : is_Hamlet t.2.1) (hl : pr.length < 270) (hG : XG t T n p (dFm D u pr) w0 w) (k : ∀ w', XG t T n p (dFm D u (pr ++ [v])) w0 w' → Q none w') : px_Call E (d + 1) 0 0 mX1_add [.ref (t.2.1 + 10), .int v] w Q := by
  obtain ⟨h1, h2, h3⟩ := fm_len hG
  refine eX1_add hG.1 (isF ht) (fun z => ?_) (fun z => ?_) <;> rw [h1] at z
  · exact absurd z (nI_ge (b := 270) (by omega) (by decide))
  · refine bX1_add_10 hG.1 (isF ht) pr.length h1 hl (bX1_add_30 (hI (hI hG.1)) (isF ht) (k _ ?_))
    refine hG.fm ht ((ag.sI (by simp)).tr (ag.sI (by simp))) ?_ ?_ (fun i hi => ?_)
    · rw [pw_same, pw_oth (by omega), h1, ← nI_succ, List.length_append]; rfl
    · rw [pw_oth (by omega), pw_oth (by omega)]; exact h2
    · rw [List.length_append] at hi
      have hi : i < pr.length + 1 := hi
      rw [pw_oth (by omega)]
      by_cases e : i = pr.length
      · rw [e]
        show pw_I (pw_sI w (t.2.1 + 11) pr.length v) (t.2.1 + 11) pr.length = _
        rw [pw_same, List.getD_eq_getElem?_getD, List.getElem?_append_right (Nat.le_refl _), Nat.sub_self]
        rfl
      · rw [pw_oth (by omega), List.getD_eq_getElem?_getD, List.getElem?_append_left (by omega), ← List.getD_eq_getElem?_getD]
        exact h3 i (by omega)
theorem tX1_addB {e : Nat × Nat} {v : Int32} (ht : is_Hamlet t.2.1) (hB : XBd t T n e w0 w) (k : ∀ w', XBd t T n e w0 w' → Q none w') : px_Call E (d + 1) 0 0 mX1_add [.ref (t.2.1 + 10), .int v] w Q := by
  obtain ⟨j, hj, hl⟩ := hB.2.2.2.2.2.2
  have q1 := dX_ne ht (c := 10) (by decide)
  have q2 := dX_ne ht (c := 11) (by decide)
  refine eX1_add hB.1 (isF ht) (fun z => bX1_add_30 hB.1 (isF ht) (k w hB)) (fun z => ?_)
  rw [hl] at z
  have hj2 : j < 270 := by
    rcases Nat.lt_or_ge j 270 with h | h
    · exact h
    · exact absurd (nI_le (a := 270) h (by omega)) z
  refine bX1_add_10 hB.1 (isF ht) j hl hj2 (bX1_add_30 (hI (hI hB.1)) (isF ht) (k _ ?_))
  have a1 : ag [t.2.1 + 10, t.2.1 + 11] w (pw_sI (pw_sI w (t.2.1 + 11) j v) (t.2.1 + 10) 2 (pw_I (pw_sI w (t.2.1 + 11) j v) (t.2.1 + 10) 2 + 1)) := (ag.sI (by simp)).tr (ag.sI (by simp))
  refine hB.set rfl ((ag.sI (dX_in (c := 11) (by decide))).tr (ag.sI (dX_in (c := 10) (by decide)))) ?_ ?_ (fun p hp => hp.ag a1 (fun z => by simp at z; omega)) ⟨j + 1, by omega, ?_⟩
  · rw [pw_oth (by omega), pw_oth (by omega)]
  · rw [pw_oth (by omega), pw_oth (by omega)]
  · show pw_I (pw_sI (pw_sI w (t.2.1 + 11) j v) (t.2.1 + 10) 2 (pw_I (pw_sI w (t.2.1 + 11) j v) (t.2.1 + 10) 2 + 1)) (t.2.1 + 10) 2 = _
    rw [pw_same, pw_oth (by omega), hl, ← nI_succ]
end XFM
