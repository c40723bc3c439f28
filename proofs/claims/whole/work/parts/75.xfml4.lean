/-! a formula read is one that can be run -/
section RCO
variable {T : Nat → Nat} {n : Nat}
theorem oAt_r {p lv : Nat} (h : ¬ oAt T n p lv = -100) : oAt T n p lv < -5 ∧ ¬ oAt T n p lv = -6 := by
  unfold oAt at h ⊢
  by_cases h4 : tC T n p = 4
  · rw [if_pos h4] at h ⊢
    split
    · decide
    · rename_i q; rw [if_neg q] at h
      split
      · decide
      · rename_i q2; rw [if_neg q2] at h; exact absurd rfl h
  · rw [if_neg h4] at h ⊢
    by_cases h5 : tC T n p = 5
    · rw [if_pos h5] at h ⊢
      repeat' (split; (first | decide | skip))
      all_goals first | decide | skip
    · rw [if_neg h5] at h; exact absurd rfl h
theorem uAt_r {p : Nat} (h : ¬ uAt T n p = -100) : ¬ uAt T n p < -5 := by
  unfold uAt at h ⊢
  by_cases h2 : tC T n p = 2
  · rw [if_pos h2]
    have := tC_2 h2
    intro z
    exact nI_pos (n := tV T n p) (by omega) (Int32.lt_trans z (by decide))
  · rw [if_neg h2] at h ⊢
    by_cases h4 : tC T n p = 4
    · rw [if_pos h4] at h ⊢
      by_cases q1 : tV T n p = 15
      · rw [if_pos q1]; decide
      · rw [if_neg q1] at h ⊢
        by_cases q2 : tV T n p = 16
        · rw [if_pos q2]; decide
        · rw [if_neg q2] at h ⊢
          by_cases q3 : tV T n p = 17
          · rw [if_pos q3]; decide
          · rw [if_neg q3] at h ⊢
            by_cases q5 : tV T n p = 18
            · rw [if_pos q5]; decide
            · rw [if_neg q5] at h ⊢
              by_cases q6 : tV T n p = 19
              · rw [if_pos q6]; decide
              · rw [if_neg q6] at h; exact absurd rfl h
    · rw [if_neg h4] at h; exact absurd rfl h
theorem fOK_b {c : Int32} {cs : List Int32} {m : Nat} (h : c < -5 ∧ ¬ c = -6) : fOK (c :: cs) (m + 2) = fOK cs (m + 1) := by
  rw [fOK, if_pos h.1, if_neg h.2, show decide (2 ≤ m + 2) = true from decide_eq_true (by omega), Bool.true_and]
  rfl
theorem rcL_ok {lv wi : Nat} {f : FC → PR FC} (hm : ∀ c z, f c = .inr z → c.1 ≤ n → c.1 ≤ z.1 ∧ z.1 ≤ n ∧ c.2.1 < z.2.1 ∧ z.2.1 ≤ 30 ∧ z.2.2.length + 1 + wi ≤ c.2.2.length + 9 * (z.2.1 - c.2.1)) (hf : ∀ c z, f c = .inr z → c.1 ≤ n → ∃ e, z.2.2 = c.2.2 ++ e ∧ ∀ rest m, m + (z.2.1 - c.2.1) ≤ 30 → fOK (e ++ rest) m = fOK rest (m + 1)) :
    ∀ mm i c z, rcL T n lv f mm i c = .inr z → c.1 ≤ n → c.2.1 ≤ 30 → ∃ e, z.2.2 = c.2.2 ++ e ∧ ∀ rest m, m + 1 + (z.2.1 - c.2.1) ≤ 30 → fOK (e ++ rest) (m + 1) = fOK rest (m + 1) := by
  intro mm
  induction mm with
  | zero => intro i c z h hc hu; rw [rcL] at h; cases h; exact ⟨[], (List.append_nil _).symm, fun rest m _ => rfl⟩
  | succ mm ih =>
    intro i c z h hc hu
    rw [rcL] at h
    by_cases h1 : oAt T n c.1 lv = -100
    · rw [if_pos h1] at h; cases h; exact ⟨[], (List.append_nil _).symm, fun rest m _ => rfl⟩
    · rw [if_neg h1] at h
      by_cases h2 : lv = 2 ∧ 0 < i
      · rw [if_pos h2] at h; cases h; exact ⟨[], (List.append_nil _).symm, fun rest m _ => rfl⟩
      · rw [if_neg h2] at h
        cases hf2 : f (tE T n c.1, c.2) with
        | inl e => rw [hf2, pB_L] at h; cases h
        | inr y =>
          rw [hf2, pB_R] at h
          have e2 := tE_le (T := T) hc
          obtain ⟨a1, a2, a3, a4, a5⟩ := hm _ _ hf2 e2
          have a3 : c.2.1 < y.2.1 := a3
          obtain ⟨e1, q1, q2⟩ := hf _ _ hf2 e2
          have q1 : y.2.2 = c.2.2 ++ e1 := q1
          have q2 : ∀ rest m, m + (y.2.1 - c.2.1) ≤ 30 → fOK (e1 ++ rest) m = fOK rest (m + 1) := q2
          obtain ⟨e3, r1, r2⟩ := ih (i + 1) _ z h a2 a4
          have r1 : z.2.2 = (y.2.2 ++ [oAt T n c.1 lv]) ++ e3 := r1
          have r2 : ∀ rest m, m + 1 + (z.2.1 - y.2.1) ≤ 30 → fOK (e3 ++ rest) (m + 1) = fOK rest (m + 1) := r2
          have b3 : y.2.1 ≤ z.2.1 := (rcL_mono (wi := wi) hm mm (i + 1) _ z h a2 a4).2.2.1
          refine ⟨e1 ++ (oAt T n c.1 lv :: e3), by rw [r1, q1]; simp, fun rest m hk => ?_⟩
          rw [List.append_assoc, q2 _ _ (by omega), List.cons_append, fOK_b (oAt_r h1)]
          exact r2 rest m (by omega)
theorem rc_ok : ∀ m lv wi c z, rc T n m lv wi c = .inr z → wi ≤ 7 → c.1 ≤ n → ∃ e, z.2.2 = c.2.2 ++ e ∧ ∀ rest m, m + (z.2.1 - c.2.1) ≤ 30 → fOK (e ++ rest) m = fOK rest (m + 1) := by
  intro m
  induction m with
  | zero => intro lv wi c z h; rw [rc] at h; cases h
  | succ m ih =>
    intro lv wi c z h hw hc
    have e2 := tE_le (T := T) hc
    rw [rc] at h
    by_cases h1 : 4 < lv
    · rw [if_pos h1] at h
      by_cases h2 : tC T n c.1 = 5 ∧ tV T n c.1 = 40
      · rw [if_pos h2] at h
        by_cases h3 : 30 ≤ c.2.1 ∨ 7 ≤ wi
        · rw [if_pos h3] at h; cases h
        · rw [if_neg h3] at h
          cases h4 : rc T n m 0 (wi + 1) (tE T n c.1, c.2.1 + 1, c.2.2) with
          | inl e => rw [h4, pB_L] at h; cases h
          | inr y =>
            rw [h4, pB_R] at h
            obtain ⟨e, q1, q2⟩ := ih _ _ _ _ h4 (by omega) e2
            have q2 : ∀ rest m, m + (y.2.1 - (c.2.1 + 1)) ≤ 30 → fOK (e ++ rest) m = fOK rest (m + 1) := q2
            split at h
            · cases h
              exact ⟨e, q1, fun rest m hk => q2 rest m (by have hk : m + (y.2.1 - c.2.1) ≤ 30 := hk; omega)⟩
            · cases h
      · rw [if_neg h2] at h
        split at h
        · cases h
        · rename_i h3
          split at h
          · cases h
          · cases h
            refine ⟨[uAt T n c.1], rfl, fun rest m hk => ?_⟩
            have hk : m + (c.2.1 + 1 - c.2.1) ≤ 30 := hk
            show fOK (uAt T n c.1 :: rest) m = _
            rw [fOK, if_neg (uAt_r h3), show decide (m < 30) = true from decide_eq_true (by omega), Bool.true_and]
    · rw [if_neg h1] at h
      by_cases h2 : lv = 2 ∧ tC T n c.1 = 4 ∧ tV T n c.1 = 14
      · rw [if_pos h2] at h
        by_cases h3 : 7 ≤ wi
        · rw [if_pos h3] at h; cases h
        · rw [if_neg h3] at h
          cases h4 : rc T n m 2 (wi + 1) (tE T n c.1, c.2) with
          | inl e => rw [h4, pB_L] at h; cases h
          | inr y =>
            rw [h4, pB_R] at h
            cases h
            obtain ⟨e, q1, q2⟩ := ih _ _ _ _ h4 (by omega) e2
            have q1 : y.2.2 = c.2.2 ++ e := q1
            refine ⟨e ++ [-6], by show y.2.2 ++ [-6] = _; rw [q1, List.append_assoc], fun rest m hk => ?_⟩
            rw [List.append_assoc, q2 _ m hk]
            show fOK (-6 :: rest) (m + 1) = _
            rw [fOK, if_pos (by decide), if_pos rfl, show decide (1 ≤ m + 1) = true from decide_eq_true (by omega), Bool.true_and]
      · rw [if_neg h2] at h
        cases h4 : rc T n m (lv + 1) wi c with
        | inl e => rw [h4, pB_L] at h; cases h
        | inr y =>
          rw [h4, pB_R] at h
          have mo := rc_mono (T := T) (n := n) _ _ _ _ _ h4 hw hc
          obtain ⟨e, q1, q2⟩ := ih _ _ _ _ h4 hw hc
          obtain ⟨e3, r1, r2⟩ := rcL_ok (wi := wi) (fun c z q r => rc_mono _ _ _ c z q hw r) (fun c z q r => ih _ _ c z q hw r) 30 0 y z h mo.2.1 mo.2.2.2.1
          have b3 := (rcL_mono (wi := wi) (fun c z q r => rc_mono _ _ _ c z q hw r) 30 0 y z h mo.2.1 mo.2.2.2.1).2.2.1
          refine ⟨e ++ e3, by rw [r1, q1, List.append_assoc], fun rest m hk => ?_⟩
          have m3 := mo.2.2.1
          rw [List.append_assoc, q2 _ _ (by omega)]
          exact r2 rest m (by omega)
end RCO
def pFml0 (T : Nat → Nat) (n : Nat) (D : DS) (p : Nat) : PR (Nat × DS) := pB (rc T n 48 0 0 (tE T n p, 0, [])) (fun z => .inr (z.1, dFm (dBit D 3) z.2.1 z.2.2))
def pFml (T : Nat → Nat) (n : Nat) (D : DS) (p : Nat) : PR (Nat × DS) := if (dO D).testBit 3 = true then .inl (rfu T n p) else pFin T n (pFml0 T n D p)
theorem WD_Fml {T : Nat → Nat} {n p : Nat} {D : DS} (hD : WD D) (hp : p ≤ n) {q : Nat} {D' : DS} (h : pFml0 T n D p = .inr (q, D')) : WD D' ∧ dF D' = dF D ∧ q ≤ n := by
  unfold pFml0 at h
  cases h4 : rc T n 48 0 0 (tE T n p, 0, []) with
  | inl e => rw [h4, pB_L] at h; cases h
  | inr z =>
    rw [h4, pB_R] at h
    cases h
    have e2 := tE_le (T := T) hp
    have mo := rc_mono (T := T) (n := n) _ _ _ _ _ h4 (by decide) e2
    obtain ⟨e, q1, q2⟩ := rc_ok (T := T) (n := n) _ _ _ _ _ h4 (by decide) e2
    have q1 : z.2.2 = e := q1
    have q2 : ∀ rest m, m + (z.2.1 - 0) ≤ 30 → fOK (e ++ rest) m = fOK rest (m + 1) := q2
    have m5 : z.2.2.length + 1 + 0 ≤ 0 + 9 * (z.2.1 - 0) := mo.2.2.2.2
    have m4 := mo.2.2.2.1
    obtain ⟨⟨x1, x2, x3, x4, x5, x6, x7, x8, x9, x10, x11, x12, x13, x14⟩, y1, y2, y3⟩ := hD.dBit (x := 3) (by decide)
    refine ⟨⟨⟨x1, x2, x3, x4, x5, x6, m4, x8, x9, x10, x11, x12, ?_, by show z.2.2.length ≤ 270; omega⟩, y1, y2, y3⟩, rfl, mo.2.1⟩
    show fOK z.2.2 0 = true
    have := q2 [] 0 (by omega)
    rw [List.append_nil] at this
    rw [q1, this]
    rfl
