def pLine (T : Nat → Nat) (n : Nat) (D : DS) (p : Nat) : PR (Nat × DS) :=
  if tC T n p = 4 then
    (if tV T n p = 0 then pPer T n D p else if tV T n p = 3 then pFml T n D p else if tV T n p = 4 then pMee T n D p else if tV T n p = 6 then pBro T n D p
     else if tV T n p = 9 then pStt T n D 9 1 99 p else if tV T n p = 10 then pStt T n D 10 0 100 p else if tV T n p = 11 then pStt T n D 11 0 999 p else .inl (rfu T n p))
  else .inl (rfu T n p)
section XFM
variable {E : px_E} {d : Nat} {w w0 : pw_W} {Q : Option Value → pw_W → Prop} {t : ct_T} {T : Nat → Nat} {n p : Nat} {D : DS}
theorem xSet {q a word : Nat} (hS : XS0 t T n w0) (hw : word = 9 ∨ word = 10 ∨ word = 11) (g : XG t T n q (dBit D word) w0 w) : XG t T n q (dSet D word a) w0 (pw_sI w t.2.1 (word + 3) (nI a)) :=
  g.st (c := 0) (D' := dSet D word a) hS.2.1 (by decide) (RXD.set (D := D) (x := dF D) g.2.2.2.2.2.2.1 hw) rfl rfl rfl rfl rfl
theorem tX5_readLine (hS : XS0 t T n w0) (hD : WD D) (hF : dF D = 0) (hG : XG t T n p D w0 w) (k1 : ∀ q D', pLine T n D p = .inr (q, D') → ∀ w', XG t T n q D' w0 w' → Q (some (.int 1)) w') (k0 : ∀ e, pLine T n D p = .inl e → ∀ w', XBd t T n e w0 w' → Q (some (.int 0)) w') : px_Call E (d + 111) 0 0 mX5_readLine [.ref 16] w Q := by
  have ht := hS.2.1
  have hk := hG.2.2.2.1
  have c4 : pw_I w 17 4 = 4 ↔ tC T n p = 4 := hk.c rfl (by decide)
  by_cases h4 : tC T n p = 4
  · have hv := hk.2.2.2.2.2 (Or.inr (Or.inl h4))
    have hb := tV_b (T := T) (n := n) (p := p) (Or.inr (Or.inl h4))
    have ve : ∀ x : Nat, x < 100 → (pw_I w 17 5 = nI x ↔ tV T n p = x) := fun x hx => by rw [hv]; exact nI_eq (by omega) (by omega)
    have L0 : pLine T n D p = (if tV T n p = 0 then pPer T n D p else if tV T n p = 3 then pFml T n D p else if tV T n p = 4 then pMee T n D p else if tV T n p = 6 then pBro T n D p
     else if tV T n p = 9 then pStt T n D 9 1 99 p else if tV T n p = 10 then pStt T n D 10 0 100 p else if tV T n p = 11 then pStt T n D 11 0 999 p else .inl (rfu T n p)) := if_pos h4
    have ref : pLine T n D p = .inl (rfu T n p) → px_Call E (d + 110) 0 0 mX5_refuse [.ref 16] w (fun v w' => px_W E mX5_readLine (d + 111) 0 0 196 [.null] (v.toList ++ []) w' Q) := fun h => tX5_refuse hS hD hG (fun w1 b1 _ => bX5_readLine_196 b1.1 ht (Or.inl rfl) (k0 _ h w1 b1))
    refine eX5_readLine hG.1 ht (fun _ z => ?_) (fun _ _ z => ?_) (fun _ _ _ z => ?_) (fun _ _ _ _ z => ?_) (fun _ _ _ _ _ z => ?_) (fun _ _ _ _ _ _ z => ?_) (fun _ _ _ _ _ _ _ z => ?_) (fun _ _ _ _ _ _ _ _ z => ?_) (fun _ _ _ _ _ _ _ _ _ z => ?_) (fun _ _ _ _ _ _ _ _ _ _ z => ?_) (fun _ _ _ _ _ _ _ _ _ _ _ z => ?_) (fun _ _ _ _ _ _ _ _ _ _ _ _ z => ?_) (fun _ y0 y1 y2 y3 y4 y5 y6 y7 y8 y9 y10 y11 => ?_) (fun z => absurd (c4.mpr h4) z)
    · have z := (ve 0 (by decide)).mp z
      have L : pLine T n D p = pPer T n D p := by rw [L0, if_pos z]
      exact tX5_readPerson hS hD hF hG (fun q D' h w1 g1 => bX5_readLine_88 g1.1 ht (Or.inr rfl) (k1 q D' (L.trans h) w1 g1)) (fun e h w1 b1 => bX5_readLine_88 b1.1 ht (Or.inl rfl) (k0 e (L.trans h) w1 b1))
    · have z := (ve 1 (by decide)).mp z
      exact ref (by rw [L0, z]; rfl)
    · have z := (ve 2 (by decide)).mp z
      exact ref (by rw [L0, z]; rfl)
    · have z := (ve 3 (by decide)).mp z
      have L : pLine T n D p = pFml T n D p := by rw [L0, z]; rfl
      exact tX5_readFormula hS hD hG (fun q D' h w1 g1 => bX5_readLine_103 g1.1 ht (Or.inr rfl) (k1 q D' (L.trans h) w1 g1)) (fun e h w1 b1 => bX5_readLine_103 b1.1 ht (Or.inl rfl) (k0 e (L.trans h) w1 b1))
    · have z := (ve 4 (by decide)).mp z
      have L : pLine T n D p = pMee T n D p := by rw [L0, z]; rfl
      exact tX5_readMeeting hS hD hF hG (fun q D' h w1 g1 => bX5_readLine_93 g1.1 ht (Or.inr rfl) (k1 q D' (L.trans h) w1 g1)) (fun e h w1 b1 => bX5_readLine_93 b1.1 ht (Or.inl rfl) (k0 e (L.trans h) w1 b1))
    · have z := (ve 5 (by decide)).mp z
      exact ref (by rw [L0, z]; rfl)
    · have z := (ve 6 (by decide)).mp z
      have L : pLine T n D p = pBro T n D p := by rw [L0, z]; rfl
      exact tX5_readBrother hS hD hF hG (fun q D' h w1 g1 => bX5_readLine_98 g1.1 ht (Or.inr rfl) (k1 q D' (L.trans h) w1 g1)) (fun e h w1 b1 => bX5_readLine_98 b1.1 ht (Or.inl rfl) (k0 e (L.trans h) w1 b1))
    · have z := (ve 7 (by decide)).mp z
      exact ref (by rw [L0, z]; rfl)
    · have z := (ve 8 (by decide)).mp z
      exact ref (by rw [L0, z]; rfl)
    · have z := (ve 9 (by decide)).mp z
      have L : pLine T n D p = pStt T n D 9 1 99 p := by rw [L0, z]; rfl
      refine tX5_readSetting (x := 9) (lo := 1) (hi := 99) rfl rfl rfl (by decide) (by decide) (by decide) hS hD hG (fun q a h _ _ w1 g1 => ?_) (fun e h a w1 b1 => ?_)
      · have g2 := xSet (a := a) hS (Or.inl rfl) g1
        refine bX5_readLine_117 g1.1 ht (fun y => absurd g2.2.2.2.2.1 y) (fun _ => bX5_readLine_132 g2.1 ht (Or.inr rfl) (k1 q _ ?_ _ g2))
        rw [L]; unfold pStt; rw [h, pB_R]
      · have b2 := b1.st (c := 0) (k := 12) (v := a) ht (by decide)
        refine bX5_readLine_117 b1.1 ht (fun _ => bX5_readLine_132 b2.1 ht (Or.inl rfl) (k0 e ?_ _ b2)) (fun y => absurd y b2.ne)
        rw [L]; unfold pStt; rw [h, pB_L]
    · have z := (ve 10 (by decide)).mp z
      have L : pLine T n D p = pStt T n D 10 0 100 p := by rw [L0, z]; rfl
      refine tX5_readSetting (x := 10) (lo := 0) (hi := 100) rfl rfl rfl (by decide) (by decide) (by decide) hS hD hG (fun q a h _ _ w1 g1 => ?_) (fun e h a w1 b1 => ?_)
      · have g2 := xSet (a := a) hS (Or.inr (Or.inl rfl)) g1
        refine bX5_readLine_146 g1.1 ht (fun y => absurd g2.2.2.2.2.1 y) (fun _ => bX5_readLine_161 g2.1 ht (Or.inr rfl) (k1 q _ ?_ _ g2))
        rw [L]; unfold pStt; rw [h, pB_R]
      · have b2 := b1.st (c := 0) (k := 13) (v := a) ht (by decide)
        refine bX5_readLine_146 b1.1 ht (fun _ => bX5_readLine_161 b2.1 ht (Or.inl rfl) (k0 e ?_ _ b2)) (fun y => absurd y b2.ne)
        rw [L]; unfold pStt; rw [h, pB_L]
    · have z := (ve 11 (by decide)).mp z
      have L : pLine T n D p = pStt T n D 11 0 999 p := by rw [L0, z]; rfl
      refine tX5_readSetting (x := 11) (lo := 0) (hi := 999) rfl rfl rfl (by decide) (by decide) (by decide) hS hD hG (fun q a h _ _ w1 g1 => ?_) (fun e h a w1 b1 => ?_)
      · have g2 := xSet (a := a) hS (Or.inr (Or.inr rfl)) g1
        refine bX5_readLine_176 g1.1 ht (fun y => absurd g2.2.2.2.2.1 y) (fun _ => bX5_readLine_191 g2.1 ht (Or.inr rfl) (k1 q _ ?_ _ g2))
        rw [L]; unfold pStt; rw [h, pB_R]
      · have b2 := b1.st (c := 0) (k := 14) (v := a) ht (by decide)
        refine bX5_readLine_176 b1.1 ht (fun _ => bX5_readLine_191 b2.1 ht (Or.inl rfl) (k0 e ?_ _ b2)) (fun y => absurd y b2.ne)
        rw [L]; unfold pStt; rw [h, pB_L]
    · have nv : ∀ x : Nat, x < 100 → ¬ pw_I w 17 5 = nI x → ¬ tV T n p = x := fun x hx h q => h ((ve x hx).mpr q)
      exact ref (by rw [L0, if_neg (nv 0 (by decide) y0), if_neg (nv 3 (by decide) y3), if_neg (nv 4 (by decide) y4), if_neg (nv 6 (by decide) y6), if_neg (nv 9 (by decide) y9), if_neg (nv 10 (by decide) y10), if_neg (nv 11 (by decide) y11)])
  · have nz : ¬ pw_I w 17 4 = 4 := fun z => h4 (c4.mp z)
    refine eX5_readLine hG.1 ht (fun z => absurd z nz) (fun z => absurd z nz) (fun z => absurd z nz) (fun z => absurd z nz) (fun z => absurd z nz) (fun z => absurd z nz) (fun z => absurd z nz) (fun z => absurd z nz) (fun z => absurd z nz) (fun z => absurd z nz) (fun z => absurd z nz) (fun z => absurd z nz) (fun z => absurd z nz) (fun _ => ?_)
    exact tX5_refuse hS hD hG (fun w1 b1 _ => bX5_readLine_15 b1.1 ht (Or.inl rfl) (k0 _ (if_neg h4) w1 b1))
end XFM
