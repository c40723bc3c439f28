section RCM
variable {T : Nat → Nat} {n : Nat}
theorem rcL_mono {lv wi : Nat} {f : FC → PR FC} (hf : ∀ c z, f c = .inr z → c.1 ≤ n → c.1 ≤ z.1 ∧ z.1 ≤ n ∧ c.2.1 < z.2.1 ∧ z.2.1 ≤ 30 ∧ z.2.2.length + 1 + wi ≤ c.2.2.length + 9 * (z.2.1 - c.2.1)) :
    ∀ m i c z, rcL T n lv f m i c = .inr z → c.1 ≤ n → c.2.1 ≤ 30 → c.1 ≤ z.1 ∧ z.1 ≤ n ∧ c.2.1 ≤ z.2.1 ∧ z.2.1 ≤ 30 ∧ z.2.2.length ≤ c.2.2.length + 9 * (z.2.1 - c.2.1) := by
  intro m
  induction m with
  | zero => intro i c z h hc hu; rw [rcL] at h; cases h; exact ⟨Nat.le_refl _, hc, Nat.le_refl _, hu, by omega⟩
  | succ m ih =>
    intro i c z h hc hu
    rw [rcL] at h
    by_cases h1 : oAt T n c.1 lv = -100
    · rw [if_pos h1] at h; cases h; exact ⟨Nat.le_refl _, hc, Nat.le_refl _, hu, by omega⟩
    · rw [if_neg h1] at h
      by_cases h2 : lv = 2 ∧ 0 < i
      · rw [if_pos h2] at h; cases h; exact ⟨Nat.le_refl _, hc, Nat.le_refl _, hu, by omega⟩
      · rw [if_neg h2] at h
        cases hf2 : f (tE T n c.1, c.2) with
        | inl e => rw [hf2, pB_L] at h; cases h
        | inr y =>
          rw [hf2, pB_R] at h
          have e0 : tC T n c.1 ≠ 0 := fun q => h1 (by unfold oAt; rw [q]; rfl)
          have e1 := tE_lt (T := T) hc e0
          have e2 := tE_le (T := T) hc
          obtain ⟨a1, a2, a3, a4, a5⟩ := hf _ _ hf2 e2
          obtain ⟨b1, b2, b3, b4, b5⟩ := ih (i + 1) _ z h a2 a4
          have a5 : y.2.2.length + 1 + wi ≤ c.2.2.length + 9 * (y.2.1 - c.2.1) := a5
          have a3 : c.2.1 < y.2.1 := a3
          have a1 : tE T n c.1 ≤ y.1 := a1
          have b1 : y.1 ≤ z.1 := b1
          have b3 : y.2.1 ≤ z.2.1 := b3
          have b5 : z.2.2.length ≤ (y.2.2 ++ [oAt T n c.1 lv]).length + 9 * (z.2.1 - y.2.1) := b5
          rw [List.length_append] at b5
          have : [oAt T n c.1 lv].length = 1 := rfl
          refine ⟨by omega, b2, by omega, b4, by omega⟩
theorem rc_mono : ∀ m lv wi c z, rc T n m lv wi c = .inr z → wi ≤ 7 → c.1 ≤ n → c.1 ≤ z.1 ∧ z.1 ≤ n ∧ c.2.1 < z.2.1 ∧ z.2.1 ≤ 30 ∧ z.2.2.length + 1 + wi ≤ c.2.2.length + 9 * (z.2.1 - c.2.1) := by
  intro m
  induction m with
  | zero => intro lv wi c z h; rw [rc] at h; cases h
  | succ m ih =>
    intro lv wi c z h hw hc
    have e2 := tE_le (T := T) hc
    have e3 : c.1 ≤ tE T n c.1 := by
      by_cases q : tC T n c.1 = 0
      · have := tQ_le (T := T) hc
        unfold tE
        split
        · omega
        · split
          · omega
          · split <;> omega
      · exact Nat.le_of_lt (tE_lt hc q)
    rw [rc] at h
    by_cases h1 : 4 < lv
    · rw [if_pos h1] at h
      by_cases h2 : tC T n c.1 = 5 ∧ tV T n c.1 = 40
      · rw [if_pos h2] at h
        by_cases h3 : 30 ≤ c.2.1 ∨ 7 ≤ wi
        · rw [if_pos h3] at h; cases h
        · rw [if_neg h3] at h
          cases h4 : rc T n m 0 (wi + 1) (tE T n c.1, c.2.1 + 1, c.2.2) with
          | inl e => rw [h4, pB_L] at h; cases h
          | inr y =>
            rw [h4, pB_R] at h
            obtain ⟨a1, a2, a3, a4, a5⟩ := ih _ _ _ _ h4 (by omega) e2
            have a1 : tE T n c.1 ≤ y.1 := a1
            have a3 : c.2.1 + 1 < y.2.1 := a3
            have a5 : y.2.2.length + 1 + (wi + 1) ≤ c.2.2.length + 9 * (y.2.1 - (c.2.1 + 1)) := a5
            split at h
            · cases h
              have f2 := tE_le (T := T) a2
              rename_i h5
              have f3 := tE_lt (T := T) a2 (by omega)
              exact ⟨by show c.1 ≤ tE T n y.1; omega, f2, by show c.2.1 < y.2.1; omega, a4, by show y.2.2.length + 1 + wi ≤ c.2.2.length + 9 * (y.2.1 - c.2.1); omega⟩
            · cases h
      · rw [if_neg h2] at h
        split at h
        · cases h
        · split at h
          · cases h
          · cases h
            refine ⟨e3, e2, by show c.2.1 < c.2.1 + 1; omega, by show c.2.1 + 1 ≤ 30; omega, ?_⟩
            show (c.2.2 ++ [uAt T n c.1]).length + 1 + wi ≤ c.2.2.length + 9 * (c.2.1 + 1 - c.2.1)
            rw [List.length_append]
            have : [uAt T n c.1].length = 1 := rfl
            omega
    · rw [if_neg h1] at h
      by_cases h2 : lv = 2 ∧ tC T n c.1 = 4 ∧ tV T n c.1 = 14
      · rw [if_pos h2] at h
        by_cases h3 : 7 ≤ wi
        · rw [if_pos h3] at h; cases h
        · rw [if_neg h3] at h
          cases h4 : rc T n m 2 (wi + 1) (tE T n c.1, c.2) with
          | inl e => rw [h4, pB_L] at h; cases h
          | inr y =>
            rw [h4, pB_R] at h
            cases h
            obtain ⟨a1, a2, a3, a4, a5⟩ := ih _ _ _ _ h4 (by omega) e2
            have a1 : tE T n c.1 ≤ y.1 := a1
            have a5 : y.2.2.length + 1 + (wi + 1) ≤ c.2.2.length + 9 * (y.2.1 - c.2.1) := a5
            refine ⟨by show c.1 ≤ y.1; omega, a2, a3, a4, ?_⟩
            show (y.2.2 ++ [-6]).length + 1 + wi ≤ c.2.2.length + 9 * (y.2.1 - c.2.1)
            rw [List.length_append]
            have : [(-6 : Int32)].length = 1 := rfl
            omega
      · rw [if_neg h2] at h
        cases h4 : rc T n m (lv + 1) wi c with
        | inl e => rw [h4, pB_L] at h; cases h
        | inr y =>
          rw [h4, pB_R] at h
          obtain ⟨a1, a2, a3, a4, a5⟩ := ih _ _ _ _ h4 hw hc
          obtain ⟨b1, b2, b3, b4, b5⟩ := rcL_mono (wi := wi) (fun c z q r => ih _ _ c z q hw r) 30 0 y z h a2 a4
          exact ⟨by omega, b2, by omega, b4, by omega⟩
end RCM
/-- the draft with this formula so far -/
def dFm (D : DS) (u : Nat) (pr : List Int32) : DS := ((fun x => match x with
  | 0 => uN ((dH D).1 0) 6 u
  | x => (dH D).1 x, pr), dP D, dB D, dO D, dK D, dJ D, dF D)
section XFM
variable {E : px_E} {d : Nat} {w w0 : pw_W} {Q : Option Value → pw_W → Prop} {t : ct_T} {T : Nat → Nat} {n p : Nat} {D : DS}
theorem oAt_w (hk : XTk T n p w) {lv : Nat} (hl : lv ≤ 5) : hX5_operatorAt w (nI lv) = oAt T n p lv := by
  have l5 : ∀ x : Nat, x < 10 → (nI lv = nI x ↔ lv = x) := fun x hx => nI_eq (by omega) (by omega)
  have c4 : pw_I w 17 4 = 4 ↔ tC T n p = 4 := hk.c rfl (by decide)
  have c5 : pw_I w 17 4 = 5 ↔ tC T n p = 5 := hk.c rfl (by decide)
  unfold hX5_operatorAt oAt
  by_cases h4 : tC T n p = 4
  · have hv := hk.2.2.2.2.2 (Or.inr (Or.inl h4))
    have hb := tV_b (T := T) (n := n) (p := p) (Or.inr (Or.inl h4))
    have ve : ∀ x : Nat, x < 100 → (pw_I w 17 5 = nI x ↔ tV T n p = x) := fun x hx => by rw [hv]; exact nI_eq (by omega) (by omega)
    have v12 : pw_I w 17 5 = 12 ↔ tV T n p = 12 := ve 12 (by decide)
    have v13 : pw_I w 17 5 = 13 ↔ tV T n p = 13 := ve 13 (by decide)
    have l0 : nI lv = 0 ↔ lv = 0 := l5 0 (by decide)
    have l1 : nI lv = 1 ↔ lv = 1 := l5 1 (by decide)
    rw [if_pos (c4.mpr h4), if_pos h4]
    simp only [v12, v13, l0, l1]
    by_cases q0 : lv = 0
    · by_cases q1 : tV T n p = 12
      · simp [q0, q1]
      · simp [q0, q1]
    · by_cases q1 : lv = 1
      · by_cases q2 : tV T n p = 13
        · simp [q1, q2]
        · simp [q1, q2]
      · simp [q0, q1]
  · rw [if_neg (fun z => h4 (c4.mp z)), if_neg h4]
    by_cases h5 : tC T n p = 5
    · have hv := hk.2.2.2.2.2 (Or.inr (Or.inr h5))
      have hm := tC_5 h5
      rw [if_pos (c5.mpr h5), if_pos h5, hv]
      have cs : ∀ v ∈ sgS, ∀ lv, lv ≤ 5 → (if nI v = 37 then (if nI lv = 4 then (-16 : Int32) else (-100)) else (if nI v = 38 then (-100) else (if nI v = 39 then (-100) else (if nI v = 40 then (-100) else (if nI v = 41 then (-100) else (if nI v = 42 then (if nI lv = 4 then (-14) else (-100)) else (if nI v = 43 then (if nI lv = 3 then (-12) else (-100)) else (if nI v = 44 then (-100) else (if nI v = 45 then (if nI lv = 3 then (-13) else (-100)) else (if nI v = 46 then (-100) else (if nI v = 47 then (if nI lv = 4 then (-15) else (-100)) else (if nI v = 48 then (-100) else (if nI v = 49 then (-100) else (if nI v = 50 then (-100) else (if nI v = 51 then (-100) else (if nI v = 52 then (-100) else (if nI v = 53 then (-100) else (if nI v = 54 then (-100) else (if nI v = 55 then (-100) else (if nI v = 56 then (-100) else (if nI v = 57 then (-100) else (if nI v = 58 then (-100) else (if nI v = 59 then (-100) else (if nI v = 60 then (if nI lv = 2 then (-9) else (-100)) else (if nI v = 61 then (if nI lv = 2 then (-11) else (-100)) else (if nI v = 62 then (if nI lv = 2 then (-10) else (-100)) else (-100))))))))))))))))))))))))))) = (if lv = 4 ∧ v = 37 then -16 else if lv = 4 ∧ v = 42 then -14 else if lv = 3 ∧ v = 43 then -12 else if lv = 3 ∧ v = 45 then -13 else if lv = 4 ∧ v = 47 then -15 else if lv = 2 ∧ v = 60 then -9 else if lv = 2 ∧ v = 61 then -11 else if lv = 2 ∧ v = 62 then -10 else -100) := by decide +kernel
      exact cs _ hm lv hl
    · rw [if_neg (fun z => h5 (c5.mp z)), if_neg h5]
theorem uAt_w (hk : XTk T n p w) : hX5_unitAt w = uAt T n p := by
  have c2 : pw_I w 17 4 = 2 ↔ tC T n p = 2 := hk.c rfl (by decide)
  have c4 : pw_I w 17 4 = 4 ↔ tC T n p = 4 := hk.c rfl (by decide)
  unfold hX5_unitAt uAt
  by_cases h2 : tC T n p = 2
  · rw [if_pos (c2.mpr h2), if_pos h2]; exact hk.2.2.2.2.2 (Or.inl h2)
  · rw [if_neg (fun z => h2 (c2.mp z)), if_neg h2]
    by_cases h4 : tC T n p = 4
    · have hv := hk.2.2.2.2.2 (Or.inr (Or.inl h4))
      have hb := tV_b (T := T) (n := n) (p := p) (Or.inr (Or.inl h4))
      have ve : ∀ x : Nat, x < 100 → (pw_I w 17 5 = nI x ↔ tV T n p = x) := fun x hx => by rw [hv]; exact nI_eq (by omega) (by omega)
      have v15 : pw_I w 17 5 = 15 ↔ tV T n p = 15 := ve 15 (by decide)
      have v16 : pw_I w 17 5 = 16 ↔ tV T n p = 16 := ve 16 (by decide)
      have v17 : pw_I w 17 5 = 17 ↔ tV T n p = 17 := ve 17 (by decide)
      have v18 : pw_I w 17 5 = 18 ↔ tV T n p = 18 := ve 18 (by decide)
      have v19 : pw_I w 17 5 = 19 ↔ tV T n p = 19 := ve 19 (by decide)
      rw [if_pos (c4.mpr h4), if_pos h4]
      simp only [v15, v16, v17, v18, v19]
    · rw [if_neg (fun z => h4 (c4.mp z)), if_neg h4]
end XFM
