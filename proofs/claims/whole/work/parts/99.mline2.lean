section MLN
variable {E : px_E} {d : Nat} {w w0 : pw_W} {Q : Option Value → pw_W → Prop} {t : ct_T} {T : Nat → Nat} {n p : Nat} {D : DS}
theorem tX10_readLine (hS : MS0 T n w0) (hD : WD D) (hU : (dO D).testBit 3 = false → aUn (dH D) = 0) (hG : MG t T n p D w0 w) (k1 : ∀ q D', pLine T n D p = .inr (q, D') → ∀ w', MG t T n q D' w0 w' → Q none w') (k0 : ∀ e, pLine T n D p = .inl e → ∀ D' w', MBd t e D' w0 w' → Q none w') : px_Call E (d + 7) 0 0 mX10_readLine [.ref 61] w Q := by
  have hk := hG.2.2.2.1
  obtain ⟨g45, g46, g47, -⟩ := hG.2.2.2.2.2.2.1.1
  obtain ⟨o24, o57, o58, o59⟩ := hG.2.2.2.2.2.2.2.2.1
  have np := hD.1.1
  have nm := hD.1.2.1
  have nb := hD.1.2.2.1
  have i0 : pX10_isWord w 123581014175598 ↔ tC T n p = 4 ∧ tV T n p = 0 := hk.kw (x := 0) (by decide) (by decide)
  have i4 : pX10_isWord w 1835361652 ↔ tC T n p = 4 ∧ tV T n p = 4 := hk.kw (x := 4) (by decide) (by decide)
  have i6 : pX10_isWord w 27710370737579378 ↔ tC T n p = 4 ∧ tV T n p = 6 := hk.kw (x := 6) (by decide) (by decide)
  have i3 : pX10_isWord w 465826574451 ↔ tC T n p = 4 ∧ tV T n p = 3 := hk.kw (x := 3) (by decide) (by decide)
  have i9 : pX10_isWord w 6448484 ↔ tC T n p = 4 ∧ tV T n p = 9 := hk.kw (x := 9) (by decide) (by decide)
  have i10 : pX10_isWord w 112615677388147 ↔ tC T n p = 4 ∧ tV T n p = 10 := hk.kw (x := 10) (by decide) (by decide)
  have i11 : pX10_isWord w 1685217655 ↔ tC T n p = 4 ∧ tV T n p = 11 := hk.kw (x := 11) (by decide) (by decide)
  have l6 : 6 ≤ pw_I w 61 45 ↔ 6 ≤ aNp (dH D) := by rw [g45]; exact ⟨fun z => za_le (a := 6) (by decide) (by omega) z, fun z => nI_le (a := 6) z (by omega)⟩
  have l9 : 9 ≤ pw_I w 61 46 ↔ 9 ≤ aNm (dH D) := by rw [g46]; exact ⟨fun z => za_le (a := 9) (by decide) (by omega) z, fun z => nI_le (a := 9) z (by omega)⟩
  have l2 : 2 ≤ pw_I w 61 47 ↔ 2 ≤ aNb (dH D) := by rw [g47]; exact ⟨fun z => za_le (a := 2) (by decide) (by omega) z, fun z => nI_le (a := 2) z (by omega)⟩
  have jz : ∀ {b : Bool}, jb (b = true) = 0 ↔ b = false := fun {b} => by cases b <;> decide
  have b24 : pw_I w 61 24 = 0 ↔ (dO D).testBit 3 = false := by rw [o24]; exact jz
  have b57 : pw_I w 61 57 = 0 ↔ (dO D).testBit 9 = false := by rw [o57]; exact jz
  have b58 : pw_I w 61 58 = 0 ↔ (dO D).testBit 10 = false := by rw [o58]; exact jz
  have b59 : pw_I w 61 59 = 0 ↔ (dO D).testBit 11 = false := by rw [o59]; exact jz
  have L0 : tC T n p = 4 → pLine T n D p = _ := fun h => if_pos h
  have fin : ∀ (x : PR (Nat × DS)) (q : Nat) (D' : DS) (w' : pw_W), pLine T n D p = pFin T n x → x = .inr (q, D') → MG t T n q D' w0 w' → px_W E mX10_readLine (d + 7) 0 0 224 [.ref 61] [] w' Q := fun x q D' w' hL hx g' => by
    refine mLnE hS g' (fun q2 h2 w2 g2 => k1 q2 D' ?_ w2 g2) (fun e he w2 b2 => k0 e ?_ D' w2 b2)
    · rw [hL, hx]; unfold pFin; rw [pB_R]; simp only []; rw [h2, pB_R]
    · rw [hL, hx]; unfold pFin; rw [pB_R]; simp only []; rw [he, pB_L]
  have fib : ∀ (x : PR (Nat × DS)) (e : Nat × Nat) (w' : pw_W), pLine T n D p = pFin T n x → x = .inl e → MBd t e D w0 w' → px_W E mX10_readLine (d + 7) 0 0 224 [.ref 61] [] w' Q := fun x e w' hL hx b' => by
    refine mLnB b' (k0 e ?_ D w' b')
    rw [hL, hx]; rfl
  have at219 : (tC T n p = 4 ∧ (tV T n p = 0 ∨ tV T n p = 4 ∨ tV T n p = 6 ∨ tV T n p = 3 ∨ tV T n p = 9 ∨ tV T n p = 10 ∨ tV T n p = 11) → pLine T n D p = .inl (rfu T n p)) → px_W E mX10_readLine (d + 7) 0 0 219 [.ref 61] [] w Q := fun h => by
    refine mLn0 hS hG (fun w' b' => k0 _ ?_ D w' b')
    by_cases h4 : tC T n p = 4
    · by_cases hv : tV T n p = 0 ∨ tV T n p = 4 ∨ tV T n p = 6 ∨ tV T n p = 3 ∨ tV T n p = 9 ∨ tV T n p = 10 ∨ tV T n p = 11
      · exact h ⟨h4, hv⟩
      · rw [L0 h4, if_neg (by omega), if_neg (by omega), if_neg (by omega), if_neg (by omega), if_neg (by omega), if_neg (by omega), if_neg (by omega)]
    · exact if_neg h4
  have told : ∀ x lo hi, (dO D).testBit x = true → pStt T n D x lo hi p = .inl (rfu T n p) := fun x lo hi h => by
    unfold pStt pSet; rw [if_pos h, pB_L]
  have nf : ∀ {b : Bool}, ¬ b = false → b = true := fun {b} h => by revert h; cases b <;> simp
  have at179 : (tC T n p = 4 ∧ (tV T n p = 0 ∨ tV T n p = 4 ∨ tV T n p = 6 ∨ tV T n p = 3 ∨ tV T n p = 9 ∨ tV T n p = 10) → pLine T n D p = .inl (rfu T n p)) → px_W E mX10_readLine (d + 7) 0 0 179 [.ref 61] [] w Q := fun h => by
    refine bX10_readLine_179 hG.1 (fun z => ?_) (fun z y => ?_) (fun z y => ?_) <;> rw [i11] at z
    · exact at219 (fun q => h ⟨q.1, by omega⟩)
    · rw [b59] at y
      exact at219 (fun _ => by rw [L0 z.1, z.2]; exact told 11 0 999 (nf y))
    · rw [b59] at y
      have L : pLine T n D p = pStt T n D 11 0 999 p := by rw [L0 z.1, z.2]; rfl
      exact mLnS (x := 11) (lo := 0) (hi := 999) (Or.inr (Or.inr rfl)) hS y (by decide) rfl rfl (by decide) (by decide) (fun w y hw k => bX10_readLine_213 hw k) hG (fun q D' hq => k1 q D' (L.trans hq)) (fun e he w' b' => k0 e (L.trans he) D w' b')
  have at140 : (tC T n p = 4 ∧ (tV T n p = 0 ∨ tV T n p = 4 ∨ tV T n p = 6 ∨ tV T n p = 3 ∨ tV T n p = 9) → pLine T n D p = .inl (rfu T n p)) → px_W E mX10_readLine (d + 7) 0 0 140 [.ref 61] [] w Q := fun h => by
    refine bX10_readLine_140 hG.1 (fun z => ?_) (fun z y => ?_) (fun z y => ?_) <;> rw [i10] at z
    · exact at179 (fun q => h ⟨q.1, by omega⟩)
    · rw [b58] at y
      exact at179 (fun _ => by rw [L0 z.1, z.2]; exact told 10 0 100 (nf y))
    · rw [b58] at y
      have L : pLine T n D p = pStt T n D 10 0 100 p := by rw [L0 z.1, z.2]; rfl
      exact mLnS (x := 10) (lo := 0) (hi := 100) (Or.inr (Or.inl rfl)) hS y (by decide) rfl rfl (by decide) (by decide) (fun w y hw k => bX10_readLine_173 hw k) hG (fun q D' hq => k1 q D' (L.trans hq)) (fun e he w' b' => k0 e (L.trans he) D w' b')
  have at101 : (tC T n p = 4 ∧ (tV T n p = 0 ∨ tV T n p = 4 ∨ tV T n p = 6 ∨ tV T n p = 3) → pLine T n D p = .inl (rfu T n p)) → px_W E mX10_readLine (d + 7) 0 0 101 [.ref 61] [] w Q := fun h => by
    refine bX10_readLine_101 hG.1 (fun z => ?_) (fun z y => ?_) (fun z y => ?_) <;> rw [i9] at z
    · exact at140 (fun q => h ⟨q.1, by omega⟩)
    · rw [b57] at y
      exact at140 (fun _ => by rw [L0 z.1, z.2]; exact told 9 1 99 (nf y))
    · rw [b57] at y
      have L : pLine T n D p = pStt T n D 9 1 99 p := by rw [L0 z.1, z.2]; rfl
      exact mLnS (x := 9) (lo := 1) (hi := 99) (Or.inl rfl) hS y (by decide) rfl rfl (by decide) (by decide) (fun w y hw k => bX10_readLine_134 hw k) hG (fun q D' hq => k1 q D' (L.trans hq)) (fun e he w' b' => k0 e (L.trans he) D w' b')
  have at77 : (tC T n p = 4 ∧ (tV T n p = 0 ∨ tV T n p = 4 ∨ tV T n p = 6) → pLine T n D p = .inl (rfu T n p)) → px_W E mX10_readLine (d + 7) 0 0 77 [.ref 61] [] w Q := fun h => by
    refine bX10_readLine_77 hG.1 (fun z => ?_) (fun z y => ?_) (fun z y => ?_) <;> rw [i3] at z
    · exact at101 (fun q => h ⟨q.1, by omega⟩)
    · rw [b24] at y
      exact at101 (fun _ => by rw [L0 z.1, z.2]; exact if_pos (nf y))
    · rw [b24] at y
      have L : pLine T n D p = pFin T n (pFml0 T n D p) := by
        rw [L0 z.1, z.2]
        show pFml T n D p = _
        unfold pFml
        rw [if_neg (by rw [y]; decide)]
      exact tX10_formula hS (hU y) hG (by omega) (fun q D' hq w' g' => bX10_readLine_98 g'.1 (fin _ q D' w' L hq g')) (fun e he w' b' => bX10_readLine_98 b'.1 (fib _ e w' L he b'))
  have at52 : (tC T n p = 4 ∧ (tV T n p = 0 ∨ tV T n p = 4) → pLine T n D p = .inl (rfu T n p)) → px_W E mX10_readLine (d + 7) 0 0 52 [.ref 61] [] w Q := fun h => by
    refine bX10_readLine_52 hG.1 (fun z => ?_) (fun z y => ?_) (fun z y => ?_) <;> rw [i6] at z
    · exact at77 (fun q => h ⟨q.1, by omega⟩)
    · rw [l2] at y
      exact at77 (fun _ => by rw [L0 z.1, z.2]; show pBro T n D p = _; unfold pBro; rw [if_neg (by omega)])
    · rw [l2] at y
      have L : pLine T n D p = pFin T n (pBro0 T n D p) := by
        rw [L0 z.1, z.2]
        exact pBro_eq (by omega)
      exact tX10_readBrother hS hD (by omega) hG (by omega) (fun q D' hq w' g' => bX10_readLine_74 g'.1 (fin _ q D' w' L hq g')) (fun e he w' b' => bX10_readLine_74 b'.1 (fib _ e w' L he b'))
  have at26 : (tC T n p = 4 ∧ tV T n p = 0 → pLine T n D p = .inl (rfu T n p)) → px_W E mX10_readLine (d + 7) 0 0 26 [.ref 61] [] w Q := fun h => by
    refine bX10_readLine_26 hG.1 (fun z => ?_) (fun z y => ?_) (fun z y => ?_) <;> rw [i4] at z
    · exact at52 (fun q => h ⟨q.1, by omega⟩)
    · rw [l9] at y
      exact at52 (fun _ => by rw [L0 z.1, z.2]; show pMee T n D p = _; unfold pMee; rw [if_neg (by omega)])
    · rw [l9] at y
      have L : pLine T n D p = pFin T n (pMee0 T n D p) := by
        rw [L0 z.1, z.2]
        exact pMee_eq (by omega)
      exact tX10_readMeeting hS hD (by omega) hG (by omega) (fun q D' hq w' g' => bX10_readLine_49 g'.1 (fin _ q D' w' L hq g')) (fun e he w' b' => bX10_readLine_49 b'.1 (fib _ e w' L he b'))
  refine eX10_readLine hG.1 (fun z => ?_) (fun z y => ?_) (fun z y => ?_) <;> rw [i0] at z
  · exact at26 (fun q => absurd q z)
  · rw [l6] at y
    exact at26 (fun _ => by rw [L0 z.1, z.2]; show pPer T n D p = _; unfold pPer; rw [if_neg (by omega)])
  · rw [l6] at y
    have L : pLine T n D p = pFin T n (pPer0 T n D p) := by
      rw [L0 z.1, z.2]
      exact pPer_eq (by omega)
    exact tX10_readPerson hS hD (by omega) hG (by omega) (fun q D' hq w' g' => bX10_readLine_23 g'.1 (fin _ q D' w' L hq g')) (fun e he w' b' => bX10_readLine_23 b'.1 (fib _ e w' L he b'))
/-- no units before a formula is told -/
def UD (D : DS) : Prop := (dO D).testBit 3 = false → aUn (dH D) = 0
theorem pLine_u (hU : UD D) {q : Nat} {D' : DS} (h : pLine T n D p = .inr (q, D')) : UD D' := by
  unfold pLine at h
  have stt : ∀ x lo hi, (x = 9 ∨ x = 10 ∨ x = 11) → pStt T n D x lo hi p = .inr (q, D') → UD D' := fun x lo hi hx h => by
    unfold pStt at h
    obtain ⟨a, h1, h2⟩ := pB_i h
    cases h2
    intro z
    have z : (dO D ||| 2 ^ x).testBit 3 = false := z
    rw [bit_oth (by omega)] at z
    have := hU z
    rcases hx with e | e | e <;> subst e <;> exact this
  split at h
  · split at h
    · by_cases h6 : aNp (dH D) < 6
      · rw [pPer_eq h6] at h
        obtain ⟨r, h1, -⟩ := pFin_r h
        unfold pPer0 at h1
        obtain ⟨a1, -, h1⟩ := pB_i h1
        obtain ⟨a2, -, h1⟩ := pB_i h1
        obtain ⟨a3, -, h1⟩ := pB_i h1
        obtain ⟨a4, -, h1⟩ := pB_i h1
        cases h1
        exact hU
      · unfold pPer at h; rw [if_neg h6] at h; cases h
    · split at h
      · unfold pFml at h
        split at h
        · cases h
        · obtain ⟨r, h1, -⟩ := pFin_r h
          unfold pFml0 at h1
          obtain ⟨a, -, h2⟩ := pB_i h1
          cases h2
          intro z
          have z : (dO D ||| 2 ^ 3).testBit 3 = false := z
          rw [bit3_set] at z; cases z
      · split at h
        · by_cases h6 : aNm (dH D) < 9
          · rw [pMee_eq h6] at h
            obtain ⟨r, h1, -⟩ := pFin_r h
            unfold pMee0 at h1
            obtain ⟨⟨q1, a1⟩, -, h1⟩ := pB_i h1
            simp only [] at h1
            obtain ⟨⟨q2, a2⟩, -, h1⟩ := pB_i h1
            simp only [] at h1
            obtain ⟨a3, -, h1⟩ := pB_i h1
            cases h1
            exact hU
          · unfold pMee at h; rw [if_neg h6] at h; cases h
        · split at h
          · by_cases h6 : aNb (dH D) < 2
            · rw [pBro_eq h6] at h
              obtain ⟨r, h1, -⟩ := pFin_r h
              unfold pBro0 at h1
              obtain ⟨a1, -, h1⟩ := pB_i h1
              obtain ⟨a2, -, h1⟩ := pB_i h1
              obtain ⟨a3, -, h1⟩ := pB_i h1
              obtain ⟨a4, -, h1⟩ := pB_i h1
              cases h1
              exact hU
            · unfold pBro at h; rw [if_neg h6] at h; cases h
          · split at h
            · exact stt 9 1 99 (Or.inl rfl) h
            · split at h
              · exact stt 10 0 100 (Or.inr (Or.inl rfl)) h
              · split at h
                · exact stt 11 0 999 (Or.inr (Or.inr rfl)) h
                · cases h
  · cases h
end MLN
