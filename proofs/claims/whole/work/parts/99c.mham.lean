/-! hamlet: the reference takes a text over -/
section MHM
variable {E : px_E} {d : Nat} {w : pw_W} {Q : Option Value → pw_W → Prop} {t : ct_T}
theorem mH1 (hw : w.1 = cs t) {m : Nat} (hm : m ≤ 320) (h18 : pw_I w 61 18 = nI m) (K : ∀ w', ag [66, 67] w w' → (∀ i, i < m → pw_I w' 66 i = pw_I w 64 i ∧ pw_I w' 67 i = pw_I w 65 i) → px_W E mX10_hamlet (d + 9) 0 0 138 [.ref 61, .int 0, .null] [] w' Q) : px_W E mX10_hamlet (d + 9) 0 0 98 [.ref 61, .int 0, .null] [] w Q := by
  have key : ∀ i, i ≤ m → ∀ w1, ag [66, 67] w w1 → (∀ j, j < i → pw_I w1 66 j = pw_I w 64 j ∧ pw_I w1 67 j = pw_I w 65 j) → px_W E mX10_hamlet (d + 9) 0 0 98 [.ref 61, .int (nI i), .null] [] w1 Q := by
    refine za_up m _ (fun i hi ih => ?_)
    intro w1 a1 f1
    have hw1 := a1.1.trans hw
    have e18 : pw_I w1 61 18 = nI m := (a1.I (by decide) _).trans h18
    refine bX10_hamlet_98 hw1 (fun q => ?_) (fun q => ?_) <;> rw [e18] at q
    · have : i = m := by have := za_le (by omega) (by omega) q; omega
      subst this
      exact K w1 a1 f1
    · have hlt : i < m := za_nle (by omega) (by omega) q
      refine bX10_hamlet_106 hw1 i rfl (by omega) ?_
      rw [nI_1]
      refine ih hlt _ (a1.tr ((ag.sI (by decide)).tr (ag.sI (by decide)))) (fun j hj => ?_)
      by_cases e : j = i
      · subst e
        rw [pw_oth (by omega), pw_same, pw_same]
        exact ⟨a1.I (by decide) _, by rw [a1.I (by decide)]⟩
      · rw [pw_oth (by omega), pw_oth (by omega), pw_oth (by omega), pw_oth (by omega)]; exact f1 j (by omega)
  exact key 0 (Nat.zero_le _) w ag.rf (fun j hj => absurd hj (Nat.not_lt_zero _))
theorem mH2 (hw : w.1 = cs t) {m : Nat} (hm : m ≤ 6) (h51 : pw_I w 61 51 = nI m) (K : ∀ w', ag [80, 81, 82] w w' → (∀ i, i < m → pw_I w' 80 i = pw_I w 71 i ∧ pw_I w' 81 i = pw_I w 72 i ∧ pw_I w' 82 i = pw_I w 73 i) → px_W E mX10_hamlet (d + 9) 0 0 190 [.ref 61, .int 0, .null] [] w' Q) : px_W E mX10_hamlet (d + 9) 0 0 138 [.ref 61, .int 0, .null] [] w Q := by
  have key : ∀ i, i ≤ m → ∀ w1, ag [80, 81, 82] w w1 → (∀ j, j < i → pw_I w1 80 j = pw_I w 71 j ∧ pw_I w1 81 j = pw_I w 72 j ∧ pw_I w1 82 j = pw_I w 73 j) → px_W E mX10_hamlet (d + 9) 0 0 138 [.ref 61, .int (nI i), .null] [] w1 Q := by
    refine za_up m _ (fun i hi ih => ?_)
    intro w1 a1 f1
    have hw1 := a1.1.trans hw
    have e51 : pw_I w1 61 51 = nI m := (a1.I (by decide) _).trans h51
    refine bX10_hamlet_138 hw1 (fun q => ?_) (fun q => ?_) <;> rw [e51] at q
    · have : i = m := by have := za_le (by omega) (by omega) q; omega
      subst this
      exact K w1 a1 f1
    · have hlt : i < m := za_nle (by omega) (by omega) q
      refine bX10_hamlet_146 hw1 i rfl (by omega) ?_
      rw [nI_1]
      refine ih hlt _ (a1.tr ((ag.sI (by decide)).tr ((ag.sI (by decide)).tr (ag.sI (by decide))))) (fun j hj => ?_)
      by_cases e : j = i
      · subst e
        rw [pw_oth (by omega), pw_oth (by omega), pw_same, pw_oth (by omega), pw_same, pw_same]
        exact ⟨a1.I (by decide) _, a1.I (by decide) _, a1.I (by decide) _⟩
      · rw [pw_oth (by omega), pw_oth (by omega), pw_oth (by omega), pw_oth (by omega), pw_oth (by omega), pw_oth (by omega), pw_oth (by omega), pw_oth (by omega), pw_oth (by omega)]; exact f1 j (by omega)
  exact key 0 (Nat.zero_le _) w ag.rf (fun j hj => absurd hj (Nat.not_lt_zero _))
theorem mH3 (hw : w.1 = cs t) {m : Nat} (hm : m ≤ 9) (h52 : pw_I w 61 52 = nI m) (K : ∀ w', ag [83, 84, 85] w w' → (∀ i, i < m → pw_I w' 83 i = pw_I w 74 i ∧ pw_I w' 84 i = pw_I w 75 i ∧ pw_I w' 85 i = pw_I w 76 i) → px_W E mX10_hamlet (d + 9) 0 0 242 [.ref 61, .int 0, .null] [] w' Q) : px_W E mX10_hamlet (d + 9) 0 0 190 [.ref 61, .int 0, .null] [] w Q := by
  have key : ∀ i, i ≤ m → ∀ w1, ag [83, 84, 85] w w1 → (∀ j, j < i → pw_I w1 83 j = pw_I w 74 j ∧ pw_I w1 84 j = pw_I w 75 j ∧ pw_I w1 85 j = pw_I w 76 j) → px_W E mX10_hamlet (d + 9) 0 0 190 [.ref 61, .int (nI i), .null] [] w1 Q := by
    refine za_up m _ (fun i hi ih => ?_)
    intro w1 a1 f1
    have hw1 := a1.1.trans hw
    have e51 : pw_I w1 61 52 = nI m := (a1.I (by decide) _).trans h52
    refine bX10_hamlet_190 hw1 (fun q => ?_) (fun q => ?_) <;> rw [e51] at q
    · have : i = m := by have := za_le (by omega) (by omega) q; omega
      subst this
      exact K w1 a1 f1
    · have hlt : i < m := za_nle (by omega) (by omega) q
      refine bX10_hamlet_198 hw1 i rfl (by omega) ?_
      rw [nI_1]
      refine ih hlt _ (a1.tr ((ag.sI (by decide)).tr ((ag.sI (by decide)).tr (ag.sI (by decide))))) (fun j hj => ?_)
      by_cases e : j = i
      · subst e
        rw [pw_oth (by omega), pw_oth (by omega), pw_same, pw_oth (by omega), pw_same, pw_same]
        exact ⟨a1.I (by decide) _, a1.I (by decide) _, a1.I (by decide) _⟩
      · rw [pw_oth (by omega), pw_oth (by omega), pw_oth (by omega), pw_oth (by omega), pw_oth (by omega), pw_oth (by omega), pw_oth (by omega), pw_oth (by omega), pw_oth (by omega)]; exact f1 j (by omega)
  exact key 0 (Nat.zero_le _) w ag.rf (fun j hj => absurd hj (Nat.not_lt_zero _))
theorem mH4 (hw : w.1 = cs t) {m : Nat} {rs : Nat → Nat} (hm : m ≤ 2) (h53 : pw_I w 61 53 = nI m) (hr : ∀ b, b < m → rs b ≤ 6 ∧ pw_I w 79 b = nI (rs b)) (K : ∀ w', ag [86, 87, 88] w w' → (∀ b, b < m → pw_I w' 86 b = pw_I w 77 b ∧ pw_I w' 88 b = pw_I w 79 b) → (∀ b, b < m → ∀ j, j < rs b → pw_I w' 87 (6 * b + j) = pw_I w 78 (6 * b + j)) → px_Call E (d + 8) 0 0 mX10_layTold [.ref 61] w' (fun v w' => px_W E mX10_hamlet (d + 9) 0 0 324 [.ref 61, .null, .null] (v.toList ++ []) w' Q)) : px_W E mX10_hamlet (d + 9) 0 0 242 [.ref 61, .int 0, .null] [] w Q := by
  have key : ∀ i, i ≤ m → ∀ w1, ag [86, 87, 88] w w1 → (∀ b, b < i → pw_I w1 86 b = pw_I w 77 b ∧ pw_I w1 88 b = pw_I w 79 b) → (∀ b, b < i → ∀ j, j < rs b → pw_I w1 87 (6 * b + j) = pw_I w 78 (6 * b + j)) → px_W E mX10_hamlet (d + 9) 0 0 242 [.ref 61, .int (nI i), .null] [] w1 Q := by
    refine za_up m _ (fun i hi ih => ?_)
    intro w1 a1 f1 r1
    have hw1 := a1.1.trans hw
    have e53 : pw_I w1 61 53 = nI m := (a1.I (by decide) _).trans h53
    refine bX10_hamlet_242 hw1 (fun q => ?_) (fun q => ?_) <;> rw [e53] at q
    · have : i = m := by have := za_le (by omega) (by omega) q; omega
      subst this
      exact K w1 a1 f1 r1
    · have hlt : i < m := za_nle (by omega) (by omega) q
      obtain ⟨r6, hri⟩ := hr i hlt
      refine bX10_hamlet_250 hw1 i rfl (by omega) ?_
      have key2 : ∀ k, k ≤ rs i → ∀ w2, ag [86, 87, 88] w w2 → (∀ b, b < i + 1 → pw_I w2 86 b = pw_I w 77 b ∧ pw_I w2 88 b = pw_I w 79 b) → (∀ b, b < i → ∀ j, j < rs b → pw_I w2 87 (6 * b + j) = pw_I w 78 (6 * b + j)) → (∀ j, j < k → pw_I w2 87 (6 * i + j) = pw_I w 78 (6 * i + j)) → px_W E mX10_hamlet (d + 9) 0 0 276 [.ref 61, .int (nI i), .int (nI k)] [] w2 Q := by
        refine za_up (rs i) _ (fun k hk ih2 => ?_)
        intro w2 a2 f2 r2 s2
        have hw2 := a2.1.trans hw
        have e88 : pw_I w2 88 i = nI (rs i) := (f2 i (by omega)).2.trans hri
        refine bX10_hamlet_276 hw2 i rfl (by omega) (fun q => ?_) (fun q => ?_) <;> rw [e88] at q
        · have : k = rs i := by have := za_le (by omega) (by omega) q; omega
          subst this
          rw [nI_1]
          refine ih hlt w2 a2 f2 (fun b hb j hj => ?_)
          by_cases e : b = i
          · subst e; exact s2 j hj
          · exact r2 b (by omega) j hj
        · have hlt2 : k < rs i := za_nle (by omega) (by omega) q
          have e6 : (6 : Int32) * nI i + nI k = nI (6 * i + k) := by rw [show (6 : Int32) = nI 6 from rfl, pk_mul, nI_add]
          refine bX10_hamlet_286 hw2 (6 * i + k) e6 (by omega) ?_
          rw [nI_1]
          refine ih2 hlt2 _ (a2.tr (ag.sI (by decide))) (fun b hb => ?_) (fun b hb j hj => ?_) (fun j hj => ?_)
          · rw [pw_oth (by omega), pw_oth (by omega)]; exact f2 b hb
          · have := (hr b (by omega)).1
            rw [pw_oth (by omega)]; exact r2 b hb j hj
          · by_cases e : j = k
            · subst e; rw [pw_same]; exact a2.I (by decide) _
            · rw [pw_oth (by omega)]; exact s2 j (by omega)
      refine key2 0 (Nat.zero_le _) _ (a1.tr ((ag.sI (by decide)).tr (ag.sI (by decide)))) (fun b hb => ?_) (fun b hb j hj => ?_) (fun j hj => absurd hj (Nat.not_lt_zero _))
      · by_cases e : b = i
        · subst e
          rw [pw_oth (by omega), pw_same, pw_same]
          exact ⟨a1.I (by decide) _, a1.I (by decide) _⟩
        · rw [pw_oth (by omega), pw_oth (by omega), pw_oth (by omega), pw_oth (by omega)]; exact f1 b (by omega)
      · rw [pw_oth (by omega), pw_oth (by omega)]; exact r1 b hb j hj
  exact key 0 (Nat.zero_le _) w ag.rf (fun j hj => absurd hj (Nat.not_lt_zero _)) (fun j hj => absurd hj (Nat.not_lt_zero _))
theorem mH5 (hw : w.1 = cs t) (K : ∀ w', ag [106] w w' → (∀ i, i < 3 → pw_I w' 106 i = 0) → Q (some (.int (pw_I w 61 51))) w') : px_W E mX10_hamlet (d + 9) 0 0 350 [.ref 61, .int 0, .null] [] w Q := by
  have key : ∀ i, i ≤ 3 → ∀ w1, ag [106] w w1 → (∀ j, j < i → pw_I w1 106 j = 0) → px_W E mX10_hamlet (d + 9) 0 0 350 [.ref 61, .int (nI i), .null] [] w1 Q := by
    refine za_up 3 _ (fun i hi ih => ?_)
    intro w1 a1 f1
    have hw1 := a1.1.trans hw
    refine bX10_hamlet_350 hw1 (fun q => ?_) (fun q => ?_)
    · have : i = 3 := by have := za_le (a := 3) (by omega) (by omega) q; omega
      subst this
      rw [a1.I (by decide)]
      exact K w1 a1 f1
    · have hlt : i < 3 := za_nle (a := 3) (by omega) (by omega) q
      refine bX10_hamlet_355 hw1 i rfl hlt ?_
      rw [nI_1]
      refine ih hlt _ (a1.tr (ag.sI (by decide))) (fun j hj => ?_)
      by_cases e : j = i
      · subst e; rw [pw_same]
      · rw [pw_oth (by omega)]; exact f1 j (by omega)
  exact key 0 (Nat.zero_le _) w ag.rf (fun j hj => absurd hj (Nat.not_lt_zero _))
end MHM
