/-! a line read leaves a draft that can be, and goes on -/
section PLN
variable {T : Nat → Nat} {n p : Nat} {D : DS}
theorem pB_i {α β : Type} {x : PR α} {f : α → PR β} {b : β} (h : pB x f = .inr b) : ∃ a, x = .inr a ∧ f a = .inr b := by
  cases x with
  | inl e => rw [pB_L] at h; cases h
  | inr a => exact ⟨a, rfl, h⟩
theorem pKw_m {word q : Nat} (hp : p ≤ n) (h : pKw T n word p = .inr q) : p < q ∧ q ≤ n := by
  unfold pKw at h
  split at h
  · rename_i h1; cases h; exact ⟨tE_lt hp (by omega), tE_le hp⟩
  · cases h
theorem pNb_m {word lo hi q a : Nat} (hp : p ≤ n) (h : pNb T n word lo hi p = .inr (q, a)) : p < q ∧ q ≤ n := by
  rw [pNb_eq] at h
  obtain ⟨r, h1, h2⟩ := pB_i h
  have m := pKw_m hp h1
  unfold pNm at h2
  split at h2
  · rename_i h3
    split at h2
    · cases h2
    · cases h2
      have := tE_lt (T := T) m.2 (by omega)
      exact ⟨by omega, tE_le m.2⟩
  · cases h2
theorem pEn_m {q : Nat} (hp : p ≤ n) (h : pEn T n p = .inr q) : p < q ∧ q ≤ n := by
  unfold pEn at h
  split at h
  · rename_i h1; cases h; exact ⟨tE_lt hp (by omega), tE_le hp⟩
  · cases h
theorem pNew_m {f : Nat → List Nat} {k q : Nat} (hp : p ≤ n) (h : pNew T n f k p = .inr q) : p < q ∧ q ≤ n := by
  obtain ⟨h1, -, h3⟩ := pNew_r h
  rw [h3]
  exact ⟨tE_lt hp (by omega), tE_le hp⟩
theorem pMay_m {word hi q a : Nat} (hp : p ≤ n) (h : pMay T n word hi p = .inr (q, a)) : p ≤ q ∧ q ≤ n := by
  unfold pMay at h
  split at h
  · have := pNb_m hp h; omega
  · cases h; exact ⟨Nat.le_refl _, hp⟩
theorem pOld_m {f : Nat → List Nat} {k x q a : Nat} (hp : p ≤ n) (h : pOld T n f k x p = .inr (q, a)) : p < q ∧ q ≤ n := by
  unfold pOld at h
  split at h
  · rename_i h1
    split at h
    · cases h
    · split at h
      · cases h
      · cases h; exact ⟨tE_lt hp (by omega), tE_le hp⟩
  · cases h
theorem pRo_m {f : Nat → List Nat} {k : Nat} (hk : k ≤ 6) : ∀ m x ro s p q ro' s', pRo T n f k m x ro s p = .inr (q, ro', s') → p ≤ n → roOK k x ro s → p < q ∧ q ≤ n ∧ 1 ≤ s' ∧ s' ≤ 6 ∧ ∃ x', roOK k x' ro' s' := by
  intro m
  induction m with
  | zero => intro x ro s p q ro' s' h; rw [pRo] at h; cases h
  | succ m ih =>
    intro x ro s p q ro' s' h hp hr
    rw [pRo] at h
    obtain ⟨a, h1, h2⟩ := pB_i h
    have mo := pOld_m (q := a.1) (a := a.2) hp h1
    obtain ⟨la, lx⟩ := pOld_r (q := a.1) (a := a.2) h1
    have hr2 := hr.up hk la lx
    have s6 : s + 1 ≤ 6 := by rw [← hr2.2.1]; unfold b6; exact List.countP_le_length
    split at h2
    · obtain ⟨a1, a2, a3, a4, a5⟩ := ih _ _ _ _ _ _ _ h2 mo.2 hr2
      exact ⟨by omega, a2, a3, a4, a5⟩
    · cases h2
      exact ⟨mo.1, mo.2, by omega, s6, _, hr2⟩
theorem pFin_r {x : PR (Nat × DS)} {q : Nat} {D' : DS} (h : pFin T n x = .inr (q, D')) : ∃ r, x = .inr (r, D') ∧ pEn T n r = .inr q := by
  unfold pFin at h
  obtain ⟨a, h1, h2⟩ := pB_i h
  obtain ⟨b, h3, h4⟩ := pB_i h2
  cases h4
  exact ⟨a.1, h1, h3⟩
theorem pPer0_m (hD : WD D) (hF : dF D = 0) (h6 : aNp (dH D) < 6) (hp : p ≤ n) (hc : tC T n p = 4) {q : Nat} {D' : DS} (h : pPer0 T n D p = .inr (q, D')) : WD D' ∧ dF D' = 0 ∧ p < q ∧ q ≤ n := by
  unfold pPer0 at h
  obtain ⟨r1, h1, h⟩ := pB_i h
  obtain ⟨r2, h2, h⟩ := pB_i h
  obtain ⟨r3, h3, h⟩ := pB_i h
  obtain ⟨r4, h4, h⟩ := pB_i h
  cases h
  have e1 := tE_lt (T := T) hp (by omega)
  have m1 := pNew_m (tE_le hp) h1
  have m2 := pNb_m (q := r2.1) (a := r2.2) m1.2 h2
  have m3 := pMay_m (q := r3.1) (a := r3.2) m2.2 h3
  have m4 := pMay_m (q := r4.1) (a := r4.2) m3.2 h4
  obtain ⟨c3, c4, -⟩ := pNew_r h1
  have t3 := tC_3 c3
  have hf9 := pNb_r (q := r2.1) (a := r2.2) h2
  have hl9 := pMay_r (q := r3.1) (a := r3.2) h3
  have hu9 := pMay_r (q := r4.1) (a := r4.2) h4
  have hD2 : WD (dNP D (tW T n (tE T n p))) := hD.dNP h6 tW_lwr t3.2 c4
  refine ⟨?_, hF, by show p < r4.1; omega, m4.2⟩
  obtain ⟨⟨x1, x2, x3, x4, x5, x6, x7, x8, x9, x10, x11, x12, x13, x14⟩, y1, y2⟩ := hD2
  refine ⟨⟨by show aNp (dH D) + 1 ≤ 6; omega, x2, x3, x4, x5, x6, x7, fun i hi => ?_, fun i hi => ?_, x10, fun b hb k hk => ?_, x12, x13, x14⟩, ⟨y1.1, Nat.le_refl _, y1.2.2⟩, y2⟩
  · have hi : i < aNp (dH D) + 1 := hi
    show uN (aFm (dH D)) (aNp (dH D)) r2.2 i ≤ 30 ∧ uN (aLe (dH D)) (aNp (dH D)) r3.2 i ≤ 9 ∧ uN (aLu (dH D)) (aNp (dH D)) r4.2 i ≤ 99
    by_cases e : i = aNp (dH D)
    · rw [e, uN_s, uN_s, uN_s]; exact ⟨hf9.2, hl9, hu9⟩
    · rw [uN_o e, uN_o e, uN_o e]; exact x8 i (by show i < aNp (dH D); omega)
  · have := x9 i hi
    exact ⟨Nat.lt_succ_of_lt this.1, Nat.lt_succ_of_lt this.2.1, this.2.2⟩
  · exact Nat.lt_succ_of_lt (x11 b hb k hk)
theorem pMee0_m (hD : WD D) (hF : dF D = 0) (h9 : aNm (dH D) < 9) (hp : p ≤ n) (hc : tC T n p = 4) {q : Nat} {D' : DS} (h : pMee0 T n D p = .inr (q, D')) : WD D' ∧ dF D' = 0 ∧ p < q ∧ q ≤ n := by
  unfold pMee0 at h
  obtain ⟨⟨q1, a⟩, h1, h⟩ := pB_i h
  simp only [] at h
  obtain ⟨⟨q2, b⟩, h2, h⟩ := pB_i h
  simp only [] at h
  obtain ⟨⟨q3, k⟩, h3, h⟩ := pB_i h
  cases h
  have e1 := tE_lt (T := T) hp (by omega)
  have m1 := pOld_m (tE_le hp) h1
  have m2 := pOld_m m1.2 h2
  have m3 := pNb_m m2.2 h3
  obtain ⟨la, -⟩ := pOld_r h1
  obtain ⟨lb, lx⟩ := pOld_r h2
  have hab : a ≠ b := fun e => by rw [e, Nat.testBit_two_pow_self] at lx; cases lx
  exact ⟨hD.dMee h9 la lb hab (pNb_r h3).2, hF, by omega, m3.2⟩
theorem pBro0_m (hD : WD D) (h2 : aNb (dH D) < 2) (hp : p ≤ n) (hc : tC T n p = 4) {q : Nat} {D' : DS} (h : pBro0 T n D p = .inr (q, D')) : WD D' ∧ dF D' = 0 ∧ p < q ∧ q ≤ n := by
  unfold pBro0 at h
  obtain ⟨q1, h1, h⟩ := pB_i h
  obtain ⟨⟨q2, c⟩, h3, h⟩ := pB_i h
  simp only [] at h
  obtain ⟨q3, h4, h⟩ := pB_i h
  obtain ⟨⟨q4, ro, s⟩, h5, h⟩ := pB_i h
  cases h
  have e1 := tE_lt (T := T) hp (by omega)
  have m1 := pNew_m (tE_le hp) h1
  have m2 := pNb_m m1.2 h3
  have m3 := pKw_m m2.2 h4
  obtain ⟨m4, m5, s1, s2, x, hr⟩ := pRo_m hD.1.1 _ _ _ _ _ _ _ _ h5 m3.2 ⟨by decide, rfl, fun i hi => absurd hi (Nat.not_lt_zero i), fun i j hi => absurd hi (Nat.not_lt_zero i)⟩
  obtain ⟨c3, c4, -⟩ := pNew_r h1
  have t3 := tC_3 c3
  exact ⟨WD_Bro (WD_NB hD h2 tW_lwr t3.2 c4) h2 (pNb_r h3) ⟨s1, s2⟩ hr, rfl, by omega, m5⟩
theorem pFml0_m (hD : WD D) (hF : dF D = 0) (hp : p ≤ n) (hc : tC T n p = 4) {q : Nat} {D' : DS} (h : pFml0 T n D p = .inr (q, D')) : WD D' ∧ dF D' = 0 ∧ p < q ∧ q ≤ n := by
  have w := WD_Fml hD hp h
  have e1 := tE_lt (T := T) hp (by omega)
  unfold pFml0 at h
  obtain ⟨z, h1, h⟩ := pB_i h
  cases h
  have mo := rc_mono (T := T) (n := n) _ _ _ _ _ h1 (by decide) (tE_le hp)
  have m1 : tE T n p ≤ z.1 := mo.1
  exact ⟨w.1, w.2.1.trans hF, by omega, mo.2.1⟩
theorem WD_Set {word v : Nat} (hD : WD D) (hw : (word = 9 ∧ 1 ≤ v ∧ v ≤ 99) ∨ (word = 10 ∧ v ≤ 100) ∨ (word = 11 ∧ v ≤ 999)) : WD (dSet D word v) := by
  have b := hD.dBit (x := word) (by omega)
  obtain ⟨⟨x1, x2, x3, x4, x5, x6, x7, x8⟩, y1, y2, y3⟩ := b
  rcases hw with ⟨rfl, h1⟩ | ⟨rfl, h1⟩ | ⟨rfl, h1⟩
  · exact ⟨⟨x1, x2, x3, h1, x5, x6, x7, x8⟩, y1, y2, y3⟩
  · exact ⟨⟨x1, x2, x3, x4, h1, x6, x7, x8⟩, y1, y2, y3⟩
  · exact ⟨⟨x1, x2, x3, x4, x5, h1, x7, x8⟩, y1, y2, y3⟩
theorem pStt_m {word lo hi : Nat} (hD : WD D) (hF : dF D = 0) (hp : p ≤ n) (hw : (word = 9 ∧ lo = 1 ∧ hi = 99) ∨ (word = 10 ∧ lo = 0 ∧ hi = 100) ∨ (word = 11 ∧ lo = 0 ∧ hi = 999)) {q : Nat} {D' : DS} (h : pStt T n D word lo hi p = .inr (q, D')) : WD D' ∧ dF D' = 0 ∧ p < q ∧ q ≤ n := by
  unfold pStt pSet at h
  obtain ⟨⟨q1, a⟩, h1, h⟩ := pB_i h
  cases h
  split at h1
  · cases h1
  · obtain ⟨⟨q2, a2⟩, h2, h1⟩ := pB_i h1
    simp only [] at h1
    obtain ⟨q3, h3, h1⟩ := pB_i h1
    cases h1
    have m2 := pNb_m hp h2
    have m3 := pEn_m m2.2 h3
    have ha := pNb_r h2
    refine ⟨WD_Set hD ?_, hF, by show p < q1; omega, m3.2⟩
    show (word = 9 ∧ 1 ≤ a ∧ a ≤ 99) ∨ (word = 10 ∧ a ≤ 100) ∨ (word = 11 ∧ a ≤ 999)
    omega
theorem pLine_m (hD : WD D) (hF : dF D = 0) (hp : p ≤ n) {q : Nat} {D' : DS} (h : pLine T n D p = .inr (q, D')) : WD D' ∧ dF D' = 0 ∧ p < q ∧ q ≤ n := by
  unfold pLine at h
  split at h
  · rename_i h4
    have fin : ∀ x, (∀ r, x = .inr (r, D') → WD D' ∧ dF D' = 0 ∧ p < r ∧ r ≤ n) → pFin T n x = .inr (q, D') → WD D' ∧ dF D' = 0 ∧ p < q ∧ q ≤ n := fun x hx h => by
      obtain ⟨r, h1, h2⟩ := pFin_r h
      obtain ⟨a1, a2, a3, a4⟩ := hx r h1
      have := pEn_m a4 h2
      exact ⟨a1, a2, by omega, this.2⟩
    split at h
    · by_cases h6 : aNp (dH D) < 6
      · rw [pPer_eq h6] at h; exact fin _ (fun r hr => pPer0_m hD hF h6 hp h4 hr) h
      · unfold pPer at h; rw [if_neg h6] at h; cases h
    · split at h
      · unfold pFml at h
        split at h
        · cases h
        · exact fin _ (fun r hr => pFml0_m hD hF hp h4 hr) h
      · split at h
        · by_cases h6 : aNm (dH D) < 9
          · rw [pMee_eq h6] at h; exact fin _ (fun r hr => pMee0_m hD hF h6 hp h4 hr) h
          · unfold pMee at h; rw [if_neg h6] at h; cases h
        · split at h
          · by_cases h6 : aNb (dH D) < 2
            · rw [pBro_eq h6] at h; exact fin _ (fun r hr => pBro0_m hD h6 hp h4 hr) h
            · unfold pBro at h; rw [if_neg h6] at h; cases h
          · split at h
            · exact pStt_m hD hF hp (Or.inl ⟨rfl, rfl, rfl⟩) h
            · split at h
              · exact pStt_m hD hF hp (Or.inr (Or.inl ⟨rfl, rfl, rfl⟩)) h
              · split at h
                · exact pStt_m hD hF hp (Or.inr (Or.inr ⟨rfl, rfl, rfl⟩)) h
                · cases h
  · cases h
end PLN
