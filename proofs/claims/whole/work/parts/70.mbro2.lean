def pBro0 (T : Nat → Nat) (n : Nat) (D : DS) (p : Nat) : PR (Nat × DS) := pB (pNew T n (dB D) (aNb (dH D)) (tE T n p)) (fun q => pB (pNb T n 7 1 20 q) (fun a => pB (pKw T n 8 a.1) (fun r => pB (pRo T n (dP D) (aNp (dH D)) 7 0 (fun _ => 0) 0 r) (fun z => .inr (z.1, dBro D (tW T n (tE T n p)) a.2 z.2.1 z.2.2)))))
theorem pBro_eq {T : Nat → Nat} {n p : Nat} {D : DS} (h : aNb (dH D) < 2) : pBro T n D p = pFin T n (pBro0 T n D p) := by
  unfold pBro pFin pBro0
  rw [if_pos h, pB_as]
  congr 1; funext q
  rw [pB_as]
  congr 1; funext a
  rw [pB_as]
  congr 1; funext r
  rw [pB_as]
  rfl
theorem MD.addB {D : DS} {w : pw_W} {l : List Nat} {c s : Nat} {ro : Nat → Nat} (h : MD (dNB D l) w) (h1 : pw_I w 77 (aNb (dH D)) = nI c) (h2 : pw_I w 79 (aNb (dH D)) = nI s) (h3 : ∀ i, i < s → pw_I w 78 (6 * aNb (dH D) + i) = nI (ro i)) (hs : ∀ b, b < aNb (dH D) → aRs (dH D) b ≤ 6) : MD (dBro D l c ro s) (pw_sI w 61 47 (nI (aNb (dH D) + 1))) := by
  obtain ⟨⟨g1, g2, g3, g4, g5⟩, gn, go, gf⟩ := h
  refine ⟨⟨⟨?_, ?_, pw_same, ?_, ?_, ?_, ?_⟩, g2, g3, fun b hb => ?_, fun b hb k hk => ?_⟩, gn, ?_, gf.1, fun z => ⟨?_, (gf.2 z).2⟩⟩
  · rw [pw_oth (by omega)]; exact g1.1
  · rw [pw_oth (by omega)]; exact g1.2.1
  · rw [pw_oth (by omega)]; exact g1.2.2.2.1
  · rw [pw_oth (by omega)]; exact g1.2.2.2.2.1
  · rw [pw_oth (by omega)]; exact g1.2.2.2.2.2.1
  · rw [pw_oth (by omega)]; exact g1.2.2.2.2.2.2
  · have hb : b < aNb (dH D) + 1 := hb
    rw [pw_oth (by omega), pw_oth (by omega)]
    show pw_I w 77 b = nI (uN (aCo (dH D)) (aNb (dH D)) c b) ∧ pw_I w 79 b = nI (uN (aRs (dH D)) (aNb (dH D)) s b)
    by_cases e : b = aNb (dH D)
    · rw [e, uN_s, uN_s]; exact ⟨h1, h2⟩
    · rw [uN_o e, uN_o e]; exact g4 b (by show b < aNb (dH D); omega)
  · have hb : b < aNb (dH D) + 1 := hb
    have hk : k < uN (aRs (dH D)) (aNb (dH D)) s b := hk
    rw [pw_oth (by omega)]
    show pw_I w 78 (6 * b + k) = nI (if 6 * aNb (dH D) ≤ 6 * b + k then ro (6 * b + k - 6 * aNb (dH D)) else aRo (dH D) (6 * b + k))
    by_cases e : b = aNb (dH D)
    · rw [e, uN_s] at hk
      rw [e, if_pos (by omega), show 6 * aNb (dH D) + k - 6 * aNb (dH D) = k by omega]
      exact h3 k hk
    · rw [uN_o e] at hk
      have := hs b (by omega)
      rw [if_neg (by omega)]
      exact g5 b (by show b < aNb (dH D); omega) k hk
  · unfold MDo
    rw [pw_oth (by omega), pw_oth (by omega), pw_oth (by omega), pw_oth (by omega)]
    exact go
  · rw [pw_oth (by omega)]; exact (gf.2 z).1
section MPA
variable {E : px_E} {d : Nat} {w w0 : pw_W} {Q : Option Value → pw_W → Prop} {t : ct_T} {T : Nat → Nat} {n p : Nat} {D : DS}
theorem mBroB {e : Nat × Nat} (h2 : aNb (dH D) < 2) (k : ∀ w', MBd t e D w0 w' → Q none w') :
    (∀ w, MBd t e D w0 w → px_W E mX10_readBrother (d + 5) 0 0 57 [.ref 61] [] w Q) ∧
    (∀ w, MBd t e D w0 w → px_W E mX10_readBrother (d + 5) 0 0 36 [.ref 61] [] w Q) ∧
    (∀ w y, MBd t e D w0 w → px_W E mX10_readBrother (d + 5) 0 0 28 [.ref 61] [.int y, .int (nI (aNb (dH D))), .ref 77] w Q) := by
  have A : ∀ w, MBd t e D w0 w → px_W E mX10_readBrother (d + 5) 0 0 57 [.ref 61] [] w Q := fun w hB =>
    bX10_readBrother_57 hB.1 (fun _ => bX10_readBrother_78 hB.1 (fun _ => bX10_readBrother_95 hB.1 (k w hB)) (fun z => absurd z hB.gt.2)) (fun z => absurd z hB.gt.2) (fun z => absurd z hB.gt.2)
  have B : ∀ w, MBd t e D w0 w → px_W E mX10_readBrother (d + 5) 0 0 36 [.ref 61] [] w Q := fun w hB => by
    have b2 := hB.st (a := 79) (k := aNb (dH D)) (v := 0) (by decide)
    exact bX10_readBrother_36 hB.1 _ hB.2.2.2.2.2.2.2 h2 (fun _ => A _ b2) (fun z => absurd z hB.gt.2)
  refine ⟨A, B, fun w y hB => ?_⟩
  have b2 := hB.st (a := 77) (k := aNb (dH D)) (v := y) (by decide)
  exact bX10_readBrother_28 hB.1 _ rfl h2 (tX10_wantB b2 (B _ b2))
theorem mBroL {c : Nat} (hS : MS0 T n w0) (hD : WD D) (h2 : aNb (dH D) < 2) (R : PR (Nat × (Nat → Nat) × Nat)) (k1 : ∀ q ro s, R = .inr (q, ro, s) → ∀ w', MG t T n q D w0 w' → pw_I w' 77 (aNb (dH D)) = nI c → pw_I w' 79 (aNb (dH D)) = nI s → (∀ i, i < s → pw_I w' 78 (6 * aNb (dH D) + i) = nI (ro i)) → px_W E mX10_readBrother (d + 5) 0 0 78 [.ref 61] [] w' Q) (k0 : ∀ e, R = .inl e → ∀ w', MBd t e D w0 w' → Q none w') :
    ∀ (m x : Nat) (ro : Nat → Nat) (s q : Nat) (w : pw_W), s + m = 7 → roOK (aNp (dH D)) x ro s → roC x ro s → R = (if tC T n q = 3 then pRo T n (dP D) (aNp (dH D)) m x ro s q else .inr (q, ro, s)) → MG t T n q D w0 w → pw_I w 77 (aNb (dH D)) = nI c → pw_I w 79 (aNb (dH D)) = nI s → (∀ i, i < s → pw_I w 78 (6 * aNb (dH D) + i) = nI (ro i)) → px_W E mX10_readBrother (d + 5) 0 0 57 [.ref 61] [] w Q := by
  have n6 := hD.1.1
  intro m
  induction m with
  | zero =>
    intro x ro s q w e hr
    have s6 : s ≤ 6 := by rw [← hr.2.1]; unfold b6; exact List.countP_le_length
    omega
  | succ m ih =>
    intro x ro s q w e hr hC hR hG f7 f9 f8
    refine bX10_readBrother_57 hG.1 (fun z => absurd hG.2.2.2.2.1 z) (fun _ z => ?_) (fun _ z => ?_) <;> rw [hG.2.2.2.1.nm] at z
    · rw [if_neg z] at hR
      exact k1 q ro s hR w hG f7 f9 f8
    · rw [if_pos z] at hR
      refine tX10_readOne (x := x) (s := s) (c := c) (ro := ro) hS hD h2 hG hr hC f7 f9 f8 (fun q2 a h3 w2 g2 e7 e9 e8 => ?_) (fun e he w2 b2 => ?_)
      · obtain ⟨la, lx⟩ := pOld_r h3
        refine bX10_readBrother_75 g2.1 (ih (x ||| 2 ^ a) (uN ro s a) (s + 1) q2 w2 (by omega) (hr.up n6 la lx) hC.up ?_ g2 e7 e9 e8)
        rw [hR, pRo, h3, pB_R]
      · refine bX10_readBrother_75 b2.1 ((mBroB h2 (k0 e ?_)).1 w2 b2)
        rw [hR, pRo, he, pB_L]
theorem tX10_readBrother (hS : MS0 T n w0) (hD : WD D) (h2 : aNb (dH D) < 2) (hG : MG t T n p D w0 w) (hc : tC T n p ≠ 1) (k1 : ∀ q D', pBro0 T n D p = .inr (q, D') → ∀ w', MG t T n q D' w0 w' → Q none w') (k0 : ∀ e, pBro0 T n D p = .inl e → ∀ w', MBd t e D w0 w' → Q none w') : px_Call E (d + 5) 0 0 mX10_readBrother [.ref 61] w Q := by
  refine eX10_readBrother hG.1 ?_
  refine tX10_new (f := dB D) (k := aNb (dH D)) (off := 6) (D' := dNB D (tW T n (tE T n p))) rfl hG.2.2.2.2.2.2.1.1.2.2.1 (by omega) (hD.2.2.1.1.lo hD.2.2.1.2.1) (fun w' hX i hi => hX.2.1.2 i (by have := hD.2.2.1.2.1; omega)) hS hG hc (fun w' hX h9 => ?_) (fun q2 e2 w2 g2 a2 => ?_) (fun e he w2 b2 _ => ?_)
  · obtain ⟨⟨g1, g2, g3, g4, g5⟩, gn, go, gf⟩ := hX
    refine ⟨⟨g1, g2, g3, g4, g5⟩, ⟨fun i hi => ?_, fun i hi => ?_⟩, go, gf⟩
    · rw [pw_L_sL, if_neg (by have := hD.2.1.2.2; have hi : i < dK D := hi; omega)]; exact gn.1 i hi
    · have hi : i < aNb (dH D) + 1 := hi
      show _ = Int64.ofNat (e256 (uN (dB D) (aNb (dH D)) (tW T n (tE T n p)) i))
      rw [pw_L_sL]
      by_cases e : i = aNb (dH D)
      · rw [if_pos ⟨rfl, by omega⟩, e, uN_s]; exact h9
      · rw [if_neg (by omega), uN_o e]; exact gn.2 i (by have := hD.2.2.1.2.1; omega)
  · obtain ⟨c3, c4, -⟩ := pNew_r e2
    have t3 := tC_3 c3
    have hD2 : WD (dNB D (tW T n (tE T n p))) := WD_NB hD h2 tW_lwr t3.2 c4
    have N : ∀ {w9 : pw_W} {q : Nat}, MG t T n q (dNB D (tW T n (tE T n p))) w0 w9 → pw_I w9 61 47 = nI (aNb (dH D)) := fun g => g.2.2.2.2.2.2.1.1.2.2.1
    have P1 : pBro0 T n D p = pB (pNb T n 7 1 20 q2) (fun a => pB (pKw T n 8 a.1) (fun r => pB (pRo T n (dP D) (aNp (dH D)) 7 0 (fun _ => 0) 0 r) (fun z => .inr (z.1, dBro D (tW T n (tE T n p)) a.2 z.2.1 z.2.2)))) := by unfold pBro0; rw [e2, pB_R]
    refine bX10_readBrother_10 g2.1 (tX10_told (x := 7) (lo := 1) (hi := 20) (by decide) (by decide) rfl rfl (by decide) (by decide) hS g2 (fun q3 c h3 w3 g3 a3 => ?_) (fun e he y w3 b3 _ => ?_))
    · rw [N g2]
      have P2 : pBro0 T n D p = pB (pKw T n 8 q3) (fun r => pB (pRo T n (dP D) (aNp (dH D)) 7 0 (fun _ => 0) 0 r) (fun z => .inr (z.1, dBro D (tW T n (tE T n p)) c z.2.1 z.2.2))) := by rw [P1, h3, pB_R]
      have g4 : MG t T n q3 (dNB D (tW T n (tE T n p))) w0 (pw_sI w3 77 (aNb (dH D)) (nI c)) := g3.st (by decide) (fun z => by omega) (fun z => by omega) (fun _ => Nat.le_refl _) (fun z => by omega)
      refine bX10_readBrother_28 g3.1 _ rfl h2 (tX10_want (x := 8) (by decide) (by decide) hS g4 (fun q5 h5 w5 g5 a5 => ?_) (fun e he w5 b5 _ => ?_))
      · have P3 : pBro0 T n D p = pB (pRo T n (dP D) (aNp (dH D)) 7 0 (fun _ => 0) 0 q5) (fun z => .inr (z.1, dBro D (tW T n (tE T n p)) c z.2.1 z.2.2)) := by rw [P2, h5, pB_R]
        have g6 : MG t T n q5 (dNB D (tW T n (tE T n p))) w0 (pw_sI w5 79 (aNb (dH D)) 0) := g5.st (by decide) (fun z => by omega) (fun z => by omega) (fun _ => Nat.le_refl _) (fun z => by omega)
        have f7 : pw_I (pw_sI w5 79 (aNb (dH D)) 0) 77 (aNb (dH D)) = nI c := by rw [pw_oth (by omega), a5.I List.not_mem_nil (by decide), pw_same]
        have K0 : ∀ e, pRo T n (dP D) (aNp (dH D)) 7 0 (fun _ => 0) 0 q5 = .inl e → ∀ w', MBd t e (dNB D (tW T n (tE T n p))) w0 w' → Q none w' := fun e he w' b' => k0 e (by rw [P3, he, pB_L]) w' (b'.np rfl rfl rfl)
        have K1 : ∀ q ro s, pRo T n (dP D) (aNp (dH D)) 7 0 (fun _ => 0) 0 q5 = .inr (q, ro, s) → ∀ w', MG t T n q (dNB D (tW T n (tE T n p))) w0 w' → pw_I w' 77 (aNb (dH D)) = nI c → pw_I w' 79 (aNb (dH D)) = nI s → (∀ i, i < s → pw_I w' 78 (6 * aNb (dH D) + i) = nI (ro i)) → px_W E mX10_readBrother (d + 5) 0 0 78 [.ref 61] [] w' Q := fun q ro s hq w' g' e7 e9 e8 => by
          refine bX10_readBrother_78 g'.1 (fun z => absurd g'.2.2.2.2.1 z) (fun _ => ?_)
          rw [N g', ← nI_succ]
          have a9 : agF [] [47] w' (pw_sI w' 61 47 (nI (aNb (dH D) + 1))) := agF.sI (by decide)
          have g9 : MG t T n q (dBro D (tW T n (tE T n p)) c ro s) w0 (pw_sI w' 61 47 (nI (aNb (dH D) + 1))) :=
            ⟨hI g'.1, g'.2.1.tr (agF.sI (by decide)), g'.2.2.1, g'.2.2.2.1.agF a9 List.not_mem_nil (by decide), (a9.F List.not_mem_nil (by decide)).trans g'.2.2.2.2.1, (a9.F List.not_mem_nil (by decide)).trans g'.2.2.2.2.2.1, MD.addB g'.2.2.2.2.2.2 e7 e9 e8 (fun b hb => (hD.1.2.2.2.2.2.2.2.2.2.1 b hb).2.2)⟩
          exact bX10_readBrother_95 g9.1 (k1 _ _ (by rw [P3, hq, pB_R]) _ g9)
        refine bX10_readBrother_36 g5.1 _ (N g5) h2 (fun z => absurd g5.2.2.2.2.1 z) (fun _ => ?_)
        refine tX10_readOne (x := 0) (s := 0) (c := c) (ro := fun _ => 0) hS hD2 h2 g6 ⟨by decide, rfl, fun i hi => absurd hi (Nat.not_lt_zero i), fun i j hi => absurd hi (Nat.not_lt_zero i)⟩ (fun c hc => by rw [Nat.zero_testBit] at hc; cases hc) f7 pw_same (fun i hi => absurd hi (Nat.not_lt_zero i)) (fun q7 a h7 w7 g7 e7 e9 e8 => ?_) (fun e he w7 b7 => ?_)
        · obtain ⟨la, lx⟩ := pOld_r h7
          have h7' : pOld T n (dP D) (aNp (dH D)) 0 q5 = .inr (q7, a) := h7
          refine mBroL (c := c) hS hD2 h2 (pRo T n (dP D) (aNp (dH D)) 7 0 (fun _ => 0) 0 q5) K1 K0 6 (0 ||| 2 ^ a) (uN (fun _ => 0) 0 a) 1 q7 w7 rfl (roOK.up (ro := fun _ => 0) (s := 0) (x := 0) ⟨by decide, rfl, fun i hi => absurd hi (Nat.not_lt_zero i), fun i j hi => absurd hi (Nat.not_lt_zero i)⟩ hD.1.1 la lx) (roC.up (fun c hc => by rw [Nat.zero_testBit] at hc; cases hc)) ?_ g7 e7 e9 e8
          rw [pRo, h7', pB_R]
          rfl
        · have he' : pOld T n (dP D) (aNp (dH D)) 0 q5 = .inl e := he
          refine (mBroB h2 (fun w' b' => K0 e (by rw [pRo, he', pB_L]) w' b')).1 w7 b7
      · exact (mBroB h2 (fun w' b' => k0 e (by rw [P2, he, pB_L]) w' b')).2.1 w5 (b5.np rfl rfl rfl)
    · rw [N g2]
      exact (mBroB h2 (fun w' b' => k0 e (by rw [P1, he, pB_L]) w' b')).2.2 w3 y (b3.np rfl rfl rfl)
  · have K := mBroB (E := E) (d := d) h2 (fun w' b' => k0 e (by unfold pBro0; rw [he, pB_L]) w' b')
    refine bX10_readBrother_10 b2.1 (tX10_toldB b2 ?_)
    rw [b2.2.2.2.2.2.2.2]
    exact K.2.2 w2 0 b2
end MPA
