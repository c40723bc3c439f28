/-! the class: what is chosen -/
def aBs1 (o : Option (Nat × Nat)) (k v : Nat) : Option (Nat × Nat) := match o with
  | none => some (k, v)
  | some q => if v < q.2 then some (k, v) else some q
theorem aBst_no {f : Nat → Option Nat} {k : Nat} (h : f k = none) : aBst f (k + 1) = aBst f k := by
  show (match f k with | none => aBst f k | some v => _) = _
  rw [h]
theorem aBst_so {f : Nat → Option Nat} {k v : Nat} (h : f k = some v) : aBst f (k + 1) = aBs1 (aBst f k) k v := by
  show (match f k with | none => aBst f k | some v => match aBst f k with | none => some (k, v) | some q => if v < q.2 then some (k, v) else some q) = _
  rw [h]
  unfold aBs1
  cases aBst f k <;> rfl
theorem aBst_lt {f : Nat → Option Nat} {c : Nat} : ∀ k, (∀ i, i < k → ∀ v, f i = some v → v < c) → ∀ q, aBst f k = some q → q.1 < k ∧ q.2 < c
  | 0, _, _, e => by cases e
  | k + 1, hf, q, e => by
    have ih := aBst_lt k (fun i hi => hf i (by omega))
    cases hk : f k with
    | none => rw [aBst_no hk] at e; have := ih q e; omega
    | some v =>
      rw [aBst_so hk] at e
      have hv := hf k (by omega) v hk
      unfold aBs1 at e
      cases ho : aBst f k with
      | none => rw [ho] at e; cases e; exact ⟨by simp, hv⟩
      | some p =>
        rw [ho] at e
        have := ih p ho
        dsimp only at e
        by_cases z : v < p.2
        · rw [if_pos z] at e; cases e; exact ⟨by simp, hv⟩
        · rw [if_neg z] at e; cases e; omega
theorem nI_m1 {x : Nat} (hx : x < 2 ^ 31) : ¬ nI x = -1 := fun z => nI_pos hx (by rw [z]; decide)
section XO
variable {E : px_E} {d : Nat} {w : pw_W} {Q : Option Value → pw_W → Prop} {t : ct_T} {h : aH} {s : aS} {r0 r1 : Nat}
theorem tX4_weigh {o : Option (Nat × Nat)} {p v : Nat} (hw : w.1 = cs t) (hC : RCh o w) (ho : ∀ q, o = some q → q.1 < 2 ^ 31 ∧ q.2 < 2 ^ 31) (hv : v < 2 ^ 31) (k : ∀ w', ag [41] w w' → RCh (aBs1 o p v) w' → Q none w') : px_Call E (d + 1) 0 0 mX4_weigh [.ref 41, .int (nI p), .int (nI v)] w Q := by
  have put : aBs1 o p v = some (p, v) → px_W E mX4_weigh (d + 1) 0 0 16 [.ref 41, .int (nI p), .int (nI v)] [] w Q := by
    intro e
    refine bX4_weigh_16 hw (bX4_weigh_26 (hI (hI hw)) (k _ ((ag.sI List.mem_cons_self).tr (ag.sI List.mem_cons_self)) ?_))
    rw [e]
    exact ⟨by rw [pw_oth (fun _ z => by omega), pw_same], pw_same⟩
  refine eX4_weigh hw (fun q => put ?_) (fun q1 q2 => ?_) (fun q1 q2 => put ?_)
  · cases o with
    | none => rfl
    | some q' => rw [hC.1] at q; exact absurd q (nI_m1 (ho q' rfl).1)
  · cases o with
    | none => exact absurd hC q1
    | some q' =>
      have g := ho q' rfl
      rw [hC.2] at q2
      have := za_le g.2 hv q2
      refine bX4_weigh_26 hw (k w ag.rf ?_)
      show RCh (if v < q'.2 then _ else _) w
      rw [if_neg (by omega)]
      exact hC
  · cases o with
    | none => exact absurd hC q1
    | some q' =>
      have g := ho q' rfl
      rw [hC.2] at q2
      have := za_nle g.2 hv q2
      show (if v < q'.2 then _ else _) = _
      rw [if_pos (by omega)]
theorem fPup_lt {n p v : Nat} (hh : aWH h) (hs : aWS h s) (hn : sD s + n < 5000) (e : fPup h s n p = some v) : v < 1000 := by
  unfold fPup at e
  by_cases z : sF s p < 30
  · rw [if_pos z] at e
    cases e
    have := aHurt_le hh (aWS.days (ro := aRo h) (fl := false) hh (hs.setF (p := p) (v := sF s p + 1) (by omega)) n hn).1
    omega
  · rw [if_neg z] at e; cases e
theorem fSco_lt {p v : Nat} (hh : aWH h) (hs : aWS h s) (hn : sD s + 7 < 5000) (e : fSco h s p = some v) : v < 1000 := by
  unfold fSco at e
  cases e
  have := aHurt_le hh (aWS.days (ro := aRo h) (fl := false) hh (hs.setB (b := sB s ||| aMok h p (aNm h)) (Nat.or_lt_two_pow (n := 9) hs.2.1 (aMok_512 hh p (Nat.le_refl _)))) 7 hn).1
  omega
theorem fRel_lt {b p v : Nat} (hh : aWH h) (hs : aWS h s) (hn : sD s + 7 < 5000) (e : fRel h s b p = some v) : v < 1000 := by
  unfold fRel at e
  cases e
  have := aHurt_le hh (aWS.days (ro := aRo h) (fl := false) hh (hs.cl b p) 7 hn).1
  omega
theorem bst31 {f : Nat → Option Nat} {k : Nat} (hk : k ≤ 6) (hf : ∀ i, i < k → ∀ v, f i = some v → v < 1000) : ∀ q, aBst f k = some q → q.1 < 2 ^ 31 ∧ q.2 < 2 ^ 31 := fun q e => by
  have := aBst_lt k hf q e
  omega
theorem tX4_choosePupil {n : Nat} (hw : w.1 = cs t) (hr0 : is_Hamlet r0) (hH : RXH h w r0) (hS : RXS h s w 35) (hh : aWH h) (hs : aWS h s) (hn : sD s + n < 5000) (k : ∀ w', ag [41, 42, 43, 44, r0 + 12] w w' → RCh (aBst (fPup h s n) (aNp h)) w' → Q none w') :
    px_Call E (d + 6) 0 0 mX4_choosePupil [.ref 41, .ref r0, .ref 35, .int (nI n)] w Q := by
  have np := hh.1
  obtain ⟨y1, y2, y3⟩ := xd_C35 hr0
  refine eX4_choosePupil hw hr0 st35 ?_
  have key : ∀ i, i ≤ aNp h → ∀ w1, ag [41, 42, 43, 44, r0 + 12] w w1 → RCh (aBst (fPup h s n) i) w1 → px_W E mX4_choosePupil (d + 6) 0 0 8 [.ref 41, .ref r0, .ref 35, .int (nI n), .int (nI i)] [] w1 Q := by
    refine za_up _ _ (fun i hi ih => ?_)
    intro w1 a1 C1
    have hw1 := a1.1.trans hw
    have H1 := hH.ag a1 (fun k hk => xd_C hr0 hk)
    have S1 := hS.ag a1 y1 y2 y3
    refine bX4_choosePupil_8 hw1 hr0 st35 (fun q => ?_) (fun q => ?_) <;> rw [H1.1.1] at q
    · have : i = aNp h := by have := za_le (by omega) (by omega) q; omega
      subst this
      exact k w1 a1 C1
    · have hlt : i < aNp h := za_nle (by omega) (by omega) q
      have g := (hs.1 i hlt).1
      refine bX4_choosePupil_17 hw1 hr0 st35 i rfl (by omega) (fun z => ?_) (fun z => ?_) <;> rw [S1.2.1 i hlt] at z
      · have z := za_le (a := 30) (by omega) (by omega) z
        refine bX4_choosePupil_67 hw1 hr0 st35 ?_
        rw [nI_1]
        refine ih hlt w1 a1 ?_
        rw [aBst_no (show fPup h s n i = none from if_neg (by omega))]
        exact C1
      · have z := za_nle (a := 30) (by omega) (by omega) z
        refine tX8_copyFrom hw1 np S1 (fun w2 a2 S2 => ?_)
        have hw2 := a2.1.trans hw1
        refine bX4_choosePupil_37 hw2 hr0 st35 i rfl (by omega) ?_
        have A3 : ag [42, 43, 44, r0 + 12] w1 (pw_sI w2 44 i (pw_I w2 44 i + 1)) := (a2.mono (by simp)).tr (ag.sI (by simp))
        have H3 := H1.ag A3 (fun k hk => xd_O hr0 hk)
        have S3 : RXS h (sSetF s i (sF s i + 1)) (pw_sI w2 44 i (pw_I w2 44 i + 1)) 42 := S2.setF (p := i) (by rw [S2.2.1 i hlt, nI_1])
        refine tX4_goOn (hI hw2) hr0 hr0.sh9 (xr9 hr0) H3 S3 H3.ro hh (hs.setF (by omega)) hh.ro hn (fun w3 a3 _ => ?_)
        have hw3 := a3.1.trans (hI hw2)
        have A13 := A3.tr a3
        have C3 : RCh (aBst (fPup h s n) i) w3 := by
          unfold RCh at C1 ⊢
          rw [A13.I (by rcases hr0 with rfl | rfl <;> simp), A13.I (by rcases hr0 with rfl | rfl <;> simp)]
          exact C1
        have ef : fPup h s n i = some _ := if_pos z
        refine bX4_choosePupil_64 hw3 hr0 st35 (tX4_weigh hw3 C3 (bst31 (by omega) (fun j _ v e => fPup_lt hh hs hn e)) (by have := fPup_lt hh hs hn ef; omega) (fun w4 a4 C4 => ?_))
        refine bX4_choosePupil_67 (a4.1.trans hw3) hr0 st35 ?_
        rw [nI_1]
        refine ih hlt w4 (a1.tr ((A13.mono (by simp)).tr (a4.mono (by simp)))) ?_
        rw [aBst_so ef]
        exact C4
  exact key 0 (Nat.zero_le _) _ (ag.sI (by simp)) pw_same
theorem tX4_chooseRelief {b : Nat} (hw : w.1 = cs t) (hr0 : is_Hamlet r0) (hH : RXH h w r0) (hS : RXS h s w 35) (hh : aWH h) (hs : aWS h s) (hb : b < aNb h) (hn : sD s + 7 < 5000) (k : ∀ w', ag [41, 42, 43, 44, r0 + 12] w w' → RCh (aBst (fRel h s b) (aNp h)) w' → Q none w') :
    px_Call E (d + 6) 0 0 mX4_chooseRelief [.ref 41, .ref r0, .ref 35, .int (nI b), .int 7] w Q := by
  have np := hh.1
  obtain ⟨y1, y2, y3⟩ := xd_C35 hr0
  refine eX4_chooseRelief hw hr0 ?_
  have key : ∀ i, i ≤ aNp h → ∀ w1, ag [41, 42, 43, 44, r0 + 12] w w1 → RCh (aBst (fRel h s b) i) w1 → px_W E mX4_chooseRelief (d + 6) 0 0 8 [.ref 41, .ref r0, .ref 35, .int (nI b), .int 7, .int (nI i)] [] w1 Q := by
    refine za_up _ _ (fun i hi ih => ?_)
    intro w1 a1 C1
    have hw1 := a1.1.trans hw
    have H1 := hH.ag a1 (fun k hk => xd_C hr0 hk)
    have S1 := hS.ag a1 y1 y2 y3
    refine bX4_chooseRelief_8 hw1 hr0 (fun q => ?_) (fun q => ?_) <;> rw [H1.1.1] at q
    · have : i = aNp h := by have := za_le (by omega) (by omega) q; omega
      subst this
      exact k w1 a1 C1
    · have hlt : i < aNp h := za_nle (by omega) (by omega) q
      refine tX8_copyFrom hw1 np S1 (fun w2 a2 S2 => ?_)
      have hw2 := a2.1.trans hw1
      have A2 : ag [42, 43, 44, r0 + 12] w1 w2 := a2.mono (by simp)
      refine bX4_chooseRelief_25 hw2 hr0 (tX2_coolOne hw2 hr0 st42 (H1.ag A2 (fun k hk => xd_O hr0 hk)) S2 hh hs hb hlt (fun w3 a3 S3 => ?_))
      have hw3 := a3.1.trans hw2
      have A3 : ag [42, 43, 44, r0 + 12] w1 w3 := A2.tr (a3.mono (by simp))
      have H3 := H1.ag A3 (fun k hk => xd_O hr0 hk)
      refine bX4_chooseRelief_36 hw3 hr0 ?_
      refine tX4_goOn (n := 7) hw3 hr0 hr0.sh9 (xr9 hr0) H3 S3 H3.ro hh (hs.cl b i) hh.ro hn (fun w4 a4 _ => ?_)
      have hw4 := a4.1.trans hw3
      have A14 := A3.tr a4
      have C4 : RCh (aBst (fRel h s b) i) w4 := by
        unfold RCh at C1 ⊢
        rw [A14.I (by rcases hr0 with rfl | rfl <;> simp), A14.I (by rcases hr0 with rfl | rfl <;> simp)]
        exact C1
      have ef : fRel h s b i = some _ := rfl
      refine bX4_chooseRelief_50 hw4 hr0 (tX4_weigh hw4 C4 (bst31 (by omega) (fun j _ v e => fRel_lt hh hs hn e)) (by have := fRel_lt hh hs hn ef; omega) (fun w5 a5 C5 => ?_))
      refine bX4_chooseRelief_53 (a5.1.trans hw4) hr0 ?_
      rw [nI_1]
      refine ih hlt w5 (a1.tr ((A14.mono (by simp)).tr (a5.mono (by simp)))) ?_
      rw [aBst_so ef]
      exact C5
  exact key 0 (Nat.zero_le _) _ (ag.sI (by simp)) pw_same
theorem tX4_chooseScourge (hw : w.1 = cs t) (hr0 : is_Hamlet r0) (hH : RXH h w r0) (hS : RXS h s w 35) (hh : aWH h) (hs : aWS h s) (hn : sD s + 7 < 5000) (k : ∀ w', ag [41, 42, 43, 44, r0 + 12] w w' → RCh (aBst (fSco h s) (aNp h)) w' → Q none w') :
    px_Call E (d + 6) 0 0 mX4_chooseScourge [.ref 41, .ref r0, .ref 35, .int 7] w Q := by
  have np := hh.1
  have nm := hh.2.1
  obtain ⟨y1, y2, y3⟩ := xd_C35 hr0
  refine eX4_chooseScourge hw hr0 ?_
  have key : ∀ i, i ≤ aNp h → ∀ w1, ag [41, 42, 43, 44, r0 + 12] w w1 → RCh (aBst (fSco h s) i) w1 → px_W E mX4_chooseScourge (d + 6) 0 0 8 [.ref 41, .ref r0, .ref 35, .int 7, .int (nI i), .null] [] w1 Q := by
    refine za_up _ _ (fun i hi ih => ?_)
    intro w1 a1 C1
    have hw1 := a1.1.trans hw
    have H1 := hH.ag a1 (fun k hk => xd_C hr0 hk)
    have S1 := hS.ag a1 y1 y2 y3
    refine bX4_chooseScourge_8 hw1 hr0 (fun q => ?_) (fun q => ?_) <;> rw [H1.1.1] at q
    · have : i = aNp h := by have := za_le (by omega) (by omega) q; omega
      subst this
      exact k w1 a1 C1
    · have hlt : i < aNp h := za_nle (by omega) (by omega) q
      refine tX8_copyFrom hw1 np S1 (fun w2 a2 S2 => ?_)
      have hw2 := a2.1.trans hw1
      refine bX4_chooseScourge_25 hw2 hr0 ?_
      have key2 : ∀ m, m ≤ aNm h → ∀ w3, ag [42, 43, 44, r0 + 12] w1 w3 → RXS h (sSetB s (sB s ||| aMok h i m)) w3 42 → px_W E mX4_chooseScourge (d + 6) 0 0 28 [.ref 41, .ref r0, .ref 35, .int 7, .int (nI i), .int (nI m)] [] w3 Q := by
        refine za_up _ _ (fun m hm ih2 => ?_)
        intro w3 A3 S3
        have hw3 := A3.1.trans hw1
        have H3 := H1.ag A3 (fun k hk => xd_O hr0 hk)
        refine bX4_chooseScourge_28 hw3 hr0 (fun q => ?_) (fun q => ?_) <;> rw [H3.1.2.1] at q
        · have : m = aNm h := by have := za_le (by omega) (by omega) q; omega
          subst this
          refine tX4_goOn (n := 7) hw3 hr0 hr0.sh9 (xr9 hr0) H3 S3 H3.ro hh (hs.setB (Nat.or_lt_two_pow (n := 9) hs.2.1 (aMok_512 hh i (Nat.le_refl _)))) hh.ro hn (fun w4 a4 _ => ?_)
          have hw4 := a4.1.trans hw3
          have A14 := A3.tr a4
          have C4 : RCh (aBst (fSco h s) i) w4 := by
            unfold RCh at C1 ⊢
            rw [A14.I (by rcases hr0 with rfl | rfl <;> simp), A14.I (by rcases hr0 with rfl | rfl <;> simp)]
            exact C1
          have ef : fSco h s i = some _ := rfl
          refine bX4_chooseScourge_96 hw4 hr0 (tX4_weigh hw4 C4 (bst31 (by omega) (fun j _ v e => fSco_lt hh hs hn e)) (by have := fSco_lt hh hs hn ef; omega) (fun w5 a5 C5 => ?_))
          refine bX4_chooseScourge_99 (a5.1.trans hw4) hr0 ?_
          rw [nI_1]
          refine ih hlt w5 (a1.tr ((A14.mono (by simp)).tr (a5.mono (by simp)))) ?_
          rw [aBst_so ef]
          exact C5
        · have ml : m < aNm h := za_nle (by omega) (by omega) q
          obtain ⟨f1, f2, -⟩ := H3.2.2.1 m ml
          obtain ⟨g1, g2, -⟩ := hh.2.2.2.2.2.2.2.2.1 m ml
          have yes : (aFi h m = i ∨ aSe h m = i) → px_W E mX4_chooseScourge (d + 6) 0 0 61 [.ref 41, .ref r0, .ref 35, .int 7, .int (nI i), .int (nI m)] [] w3 Q := by
            intro z
            refine bX4_chooseScourge_61 hw3 hr0 (bX4_chooseScourge_77 (hI hw3) hr0 ?_)
            rw [nI_1]
            refine ih2 ml _ (A3.tr (ag.sI (by simp))) ?_
            have e : aMok h i (m + 1) = aMok h i m ||| 2 ^ m := if_pos z
            rw [e]
            refine S3.setB ?_
            rw [S3.2.2.1, za_bit1 (by omega), za_or]
            show nI (sB s ||| aMok h i m ||| 2 ^ m) = _
            rw [Nat.or_assoc]
          refine bX4_chooseScourge_37 hw3 hr0 m rfl (by omega) (fun z => ?_) (fun z => ?_) <;> rw [f1] at z
          · exact yes (Or.inl (za_eq (by omega) (by omega) z))
          · refine bX4_chooseScourge_49 hw3 hr0 m rfl (by omega) (fun z2 => ?_) (fun z2 => ?_) <;> rw [f2] at z2
            · refine bX4_chooseScourge_77 hw3 hr0 ?_
              rw [nI_1]
              refine ih2 ml w3 A3 ?_
              have e : aMok h i (m + 1) = aMok h i m := if_neg (fun y => y.elim (za_ne (by omega) (by omega) z) (za_ne (by omega) (by omega) z2))
              rw [e]
              exact S3
            · exact yes (Or.inr (za_eq (by omega) (by omega) z2))
      refine key2 0 (Nat.zero_le _) w2 (a2.mono (by simp)) ?_
      show RXS h (sSetB s (sB s ||| 0)) w2 42
      rw [Nat.or_zero]
      exact S2
  exact key 0 (Nat.zero_le _) _ (ag.sI (by simp)) pw_same
end XO
