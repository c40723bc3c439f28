/-! the class reads a line -/
theorem RXD.fm0 {D : DS} {u' x : Nat} {pr' : List Int32} {w w' : pw_W} {r : Nat} (h : RXD (dH D) x w r) (e : ∀ c, c ≤ 9 → ∀ b, pw_I w' (r + c) b = pw_I w (r + c) b) (h2 : pw_I w' (r + 10) 2 = nI pr'.length) (h3 : pw_I w' (r + 10) 3 = nI u') (h4 : ∀ i, i < pr'.length → pw_I w' (r + 11) i = pr'.getD i 0) : RXD (dH (dFm D u' pr')) x w' r := by
  obtain ⟨⟨a, b1, b2, b3, b4, -, -, -⟩, h8⟩ := h
  have e0 : ∀ b, pw_I w' r b = pw_I w r b := fun b => e 0 (by decide) b
  have o : ∀ v : Int32, ∀ c, c ≤ 9 → ∀ b, pw_I (pw_sI w' r 8 v) (r + c) b = pw_I (pw_sI w r 8 v) (r + c) b := fun v c hc b => by rw [pw_I_sI, pw_I_sI, e c hc]
  have o0 : ∀ v : Int32, ∀ b, pw_I (pw_sI w' r 8 v) r b = pw_I (pw_sI w r 8 v) r b := fun v b => o v 0 (by decide) b
  have on : ∀ v : Int32, ∀ c b, 1 ≤ c → pw_I (pw_sI w' r 8 v) (r + c) b = pw_I w' (r + c) b := fun v c b hc => pw_oth (fun z _ => by omega)
  refine ⟨⟨?_, fun i hi => ?_, fun i hi => ?_, fun i hi => ?_, fun b hb k hk => ?_, ?_, ?_, fun i hi => ?_⟩, (e0 8).trans h8⟩
  · simp only [o0]; exact a
  · rw [o _ 1 (by decide), o _ 2 (by decide), o _ 3 (by decide)]; exact b1 i hi
  · rw [o _ 4 (by decide), o _ 5 (by decide), o _ 6 (by decide)]; exact b2 i hi
  · rw [o _ 7 (by decide), o _ 8 (by decide)]; exact b3 i hi
  · rw [o _ 9 (by decide)]; exact b4 b hb k hk
  · rw [on _ _ _ (by decide)]; exact h2
  · rw [on _ _ _ (by decide)]; exact h3
  · rw [on _ _ _ (by decide)]; exact h4 i hi
section XFM
variable {E : px_E} {d : Nat} {w w0 : pw_W} {Q : Option Value → pw_W → Prop} {t : ct_T} {T : Nat → Nat} {n p : Nat} {D : DS}
theorem tX1_clearG (ht : is_Hamlet t.2.1) (hG : XG t T n p D w0 w) (k : ∀ w', XG t T n p (dFm D 0 []) w0 w' → Q none w') : px_Call E (d + 1) 0 0 mX1_clear [.ref (t.2.1 + 10)] w Q := by
  refine eX1_clear hG.1 (isF ht) (bX1_clear_10 (hI (hI hG.1)) (isF ht) (k _ ?_))
  have ha : ag [t.2.1 + 10] w (pw_sI (pw_sI w (t.2.1 + 10) 2 0) (t.2.1 + 10) 3 0) := (ag.sI (List.mem_singleton_self _)).tr (ag.sI (List.mem_singleton_self _))
  obtain ⟨hw, hA, hp, hk, f5, f6, hX, x1, x2, x3⟩ := hG
  have q1 := dX_ne ht (c := 10) (by decide)
  have nn : ∀ a ∈ [16, 17, 20, 21], a ∉ [t.2.1 + 10] := fun a h z => by
    simp at h z
    omega
  refine ⟨hI (hI hw), hA.tr (ha.mono (fun a h => by rw [List.mem_singleton.mp h]; exact dX_in (by decide))), hp, hk.ag ha (nn 17 (by decide)), (ha.I (nn 16 (by decide)) 5).trans f5, (ha.I (nn 16 (by decide)) 6).trans f6, RXD.fm0 hX (fun c hc b => ha.I (fun z => ?_) b) ?_ pw_same (fun i hi => absurd hi (Nat.not_lt_zero i)), fun i hi => (ha.L (nn 20 (by decide)) i).trans (x1 i hi), fun i hi => (ha.L (nn 21 (by decide)) i).trans (x2 i hi), (ha.I (nn 16 (by decide)) 4).trans x3⟩
  · have := List.mem_singleton.mp z; omega
  · rw [pw_oth (by omega), pw_same]; rfl
theorem tX5_readFormula (hS : XS0 t T n w0) (hD : WD D) (hG : XG t T n p D w0 w) (k1 : ∀ q D', pFml T n D p = .inr (q, D') → ∀ w', XG t T n q D' w0 w' → Q (some (.int 1)) w') (k0 : ∀ e, pFml T n D p = .inl e → ∀ w', XBd t T n e w0 w' → Q (some (.int 0)) w') : px_Call E (d + 110) 0 0 mX5_readFormula [.ref 16] w Q := by
  have ht := hS.2.1
  refine eX5_readFormula hG.1 ht (tX5_isFirstTime (x := 3) rfl (by decide) hS hD hG (fun hb w1 g1 => ?_) (fun hb w1 g1 => ?_))
  · have P0 : pFml T n D p = pFin T n (pFml0 T n D p) := if_neg (by rw [hb]; decide)
    refine bX5_readFormula_5 g1.1 ht (fun _ => ?_) (fun z => absurd z (by decide))
    refine tX5_adv hS g1 (fun w2 g2 _ => bX5_readFormula_20 g2.1 ht (tX1_clearG ht g2 (fun w3 g3 => bX5_readFormula_30 g3.1 ht ?_)))
    refine xRc_all (D := dBit D 3) hS 48 (d + 109) 0 0 (tE T n p, 0, []) w3 _ (by omega) (by decide) (by decide) (by decide) (Nat.zero_le _) (Nat.zero_le _) g3 (fun z hz w4 g4 => ?_) (fun e he w4 b4 => ?_)
    · have P1 : pFml0 T n D p = .inr (z.1, dFm (dBit D 3) z.2.1 z.2.2) := by unfold pFml0; rw [hz, pB_R]
      have hD4 := (WD_Fml hD hG.2.2.1 P1).1
      refine bX5_readFormula_36 g4.1 ht (fun y => absurd y (by decide)) (fun _ => tX5_readLineEnd hS hD4 g4 (fun q5 h5 w5 g5 => ?_) (fun e he w5 b5 => ?_))
      · refine bX5_readFormula_43 g5.1 ht (fun y => absurd y (by decide)) (fun _ => bX5_readFormula_51 g5.1 ht (Or.inr rfl) (k1 _ _ ?_ w5 g5))
        rw [P0, P1]; unfold pFin; rw [pB_R, h5, pB_R]
      · refine bX5_readFormula_43 b5.1 ht (fun _ => bX5_readFormula_50 b5.1 ht (bX5_readFormula_51 b5.1 ht (Or.inl rfl) (k0 e ?_ w5 b5))) (fun y => absurd rfl y)
        rw [P0, P1]; unfold pFin; rw [pB_R, he, pB_L]
    · refine bX5_readFormula_36 b4.1 ht (fun _ => bX5_readFormula_50 b4.1 ht (bX5_readFormula_51 b4.1 ht (Or.inl rfl) (k0 e ?_ w4 b4))) (fun y => absurd rfl y)
      rw [P0]; unfold pFin pFml0; rw [he, pB_L, pB_L]
  · have P0 : pFml T n D p = .inl (rfu T n p) := if_pos hb
    refine bX5_readFormula_5 g1.1 ht (fun z => absurd rfl z) (fun _ => ?_)
    exact tX5_refuse hS (hD.dBit (by decide)) g1 (fun w2 b2 _ => bX5_readFormula_12 b2.1 ht (Or.inl rfl) (k0 _ P0 w2 b2))
/-- what is set once: 9 bed, 10 flares, 11 draw -/
def dSet (D : DS) (word v : Nat) : DS := ((fun x => match x with
  | 0 => uN ((dH D).1 0) (word - 6) v
  | x => (dH D).1 x, aPr (dH D)), dP D, dB D, dO D ||| 2 ^ word, dK D, dJ D, dF D)
def pStt (T : Nat → Nat) (n : Nat) (D : DS) (word lo hi p : Nat) : PR (Nat × DS) := pB (pSet T n D word lo hi p) (fun a => .inr (a.1, dSet D word a.2))
theorem RXD.set {D : DS} {x word v : Nat} {w : pw_W} {r : Nat} (h : RXD (dH D) x w r) (hw : word = 9 ∨ word = 10 ∨ word = 11) : RXD (dH (dSet D word v)) x (pw_sI w r (word + 3) (nI v)) r := by
  obtain ⟨⟨⟨a0, a1, a2, a3, a4, a5⟩, b1, b2, b3, b4, b5, b6, b7⟩, h8⟩ := h
  have cm : ∀ u : Int32, ∀ a b, pw_I (pw_sI (pw_sI w r (word + 3) (nI v)) r 8 u) a b = if a = r ∧ b = word + 3 then nI v else pw_I (pw_sI w r 8 u) a b := fun u a b => by
    rw [pw_I_sI, pw_I_sI, pw_I_sI]
    by_cases z : a = r ∧ b = 8
    · rw [if_pos z, if_neg (by omega), if_pos z]
    · rw [if_neg z, if_neg z]
  have o : ∀ u : Int32, ∀ a b, (a = r → b ≠ word + 3) → pw_I (pw_sI (pw_sI w r (word + 3) (nI v)) r 8 u) a b = pw_I (pw_sI w r 8 u) a b := fun u a b z => by
    rw [cm, if_neg (fun q => z q.1 q.2)]
  have s : ∀ u : Int32, pw_I (pw_sI (pw_sI w r (word + 3) (nI v)) r 8 u) r (word + 3) = nI v := fun u => by rw [cm, if_pos ⟨rfl, rfl⟩]
  have e0 : aNp (dH (dSet D word v)) = aNp (dH D) := by rcases hw with rfl | rfl | rfl <;> rfl
  have e1 : aNm (dH (dSet D word v)) = aNm (dH D) := by rcases hw with rfl | rfl | rfl <;> rfl
  have e2 : aNb (dH (dSet D word v)) = aNb (dH D) := by rcases hw with rfl | rfl | rfl <;> rfl
  have e6 : aUn (dH (dSet D word v)) = aUn (dH D) := by rcases hw with rfl | rfl | rfl <;> rfl
  unfold RXD RXH
  rw [e0, e1, e2, e6]
  refine ⟨⟨⟨?_, ?_, ?_, ?_, ?_, ?_⟩, fun i hi => ?_, fun i hi => ?_, fun i hi => ?_, fun b hb k hk => ?_, ?_, ?_, fun i hi => ?_⟩, ?_⟩
  · rw [o _ _ _ (by omega)]; exact a0
  · rw [o _ _ _ (by omega)]; exact a1
  · rw [o _ _ _ (by omega)]; exact a2
  · rcases hw with rfl | rfl | rfl
    · exact s _
    · rw [o _ _ _ (by omega)]; exact a3
    · rw [o _ _ _ (by omega)]; exact a3
  · rcases hw with rfl | rfl | rfl
    · rw [o _ _ _ (by omega)]; exact a4
    · exact s _
    · rw [o _ _ _ (by omega)]; exact a4
  · rcases hw with rfl | rfl | rfl
    · rw [o _ _ _ (by omega)]; exact a5
    · rw [o _ _ _ (by omega)]; exact a5
    · exact s _
  · rw [o _ _ _ (by omega), o _ _ _ (by omega), o _ _ _ (by omega)]; exact b1 i hi
  · rw [o _ _ _ (by omega), o _ _ _ (by omega), o _ _ _ (by omega)]; exact b2 i hi
  · rw [o _ _ _ (by omega), o _ _ _ (by omega)]; exact b3 i hi
  · rw [o _ _ _ (by omega)]; exact b4 b hb k hk
  · rw [o _ _ _ (by omega)]; exact b5
  · rw [o _ _ _ (by omega)]; exact b6
  · rw [o _ _ _ (by omega)]; exact b7 i hi
  · rw [pw_oth (by omega)]; exact h8
end XFM
