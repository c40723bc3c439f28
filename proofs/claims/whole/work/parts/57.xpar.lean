/-! the class's parser: its state, its small parts -/
/-- what reading a text changes -/
abbrev dX (t : ct_T) : List Nat := [16, 17, 20, 21, t.2.1, t.2.1 + 1, t.2.1 + 2, t.2.1 + 3, t.2.1 + 4, t.2.1 + 5, t.2.1 + 6, t.2.1 + 7, t.2.1 + 8, t.2.1 + 9, t.2.1 + 10, t.2.1 + 11]
/-- a draft: the hamlet, the names of PEOPLE and of BROTHERS, what was told once -/
abbrev DS : Type := aH × (Nat → List Nat) × (Nat → List Nat) × Nat × Nat × Nat × Nat
def dH (D : DS) : aH := D.1
def dP (D : DS) : Nat → List Nat := D.2.1
def dB (D : DS) : Nat → List Nat := D.2.2.1
def dO (D : DS) : Nat := D.2.2.2.1
/-- how many names are kept -/
def dK (D : DS) : Nat := D.2.2.2.2.1
def dJ (D : DS) : Nat := D.2.2.2.2.2.1
/-- 1 where a BROTHER is counted whose round is still to come -/
def dF (D : DS) : Nat := D.2.2.2.2.2.2
def RXD (h : aH) (x : Nat) (w : pw_W) (r : Nat) : Prop := RXH h (pw_sI w r 8 (nI (aNb h))) r ∧ pw_I w r 8 = nI (aNb h + x)
def nmOK (f : Nat → List Nat) (k : Nat) : Prop := (∀ i, i < k → lwr (f i) ∧ (f i).length ≤ 8) ∧ ∀ i j, i < k → j < k → f i = f j → i = j
def XD (t : ct_T) (D : DS) (w : pw_W) : Prop := RXD (dH D) (dF D) w t.2.1 ∧ (∀ i, i < dK D → pw_L w 20 i = Int64.ofNat (e27 (dP D i))) ∧ (∀ i, i < dJ D → pw_L w 21 i = Int64.ofNat (e27 (dB D i))) ∧ pw_I w 16 4 = nI (dO D)
/-- what a draft can be -/
def WD (D : DS) : Prop := aWH (dH D) ∧ (nmOK (dP D) (dK D) ∧ aNp (dH D) ≤ dK D ∧ dK D ≤ 6) ∧ (nmOK (dB D) (dJ D) ∧ aNb (dH D) ≤ dJ D ∧ dJ D ≤ 2) ∧ dO D < 4096
theorem dX_H {t : ct_T} (h : is_Hamlet t.2.1) {a : Nat} (ha : a ∈ [16, 17, 20, 21]) : ∀ k, k ≤ 11 → t.2.1 + k ∉ [a] := by
  intro k hk
  rcases h with e | e <;> rw [e] <;> simp at ha ⊢ <;> omega
theorem pw_I_self {w : pw_W} {r k : Nat} {v : Int32} (h : pw_I w r k = v) : ∀ a b, pw_I (pw_sI w r k v) a b = pw_I w a b := fun a b => by
  rw [pw_I_sI]
  by_cases z : a = r ∧ b = k
  · rw [if_pos z, z.1, z.2, h]
  · rw [if_neg z]
theorem RXH.I {h : aH} {w w' : pw_W} {r : Nat} (hH : RXH h w r) (e : ∀ c, c ≤ 11 → ∀ b, pw_I w' (r + c) b = pw_I w (r + c) b) : RXH h w' r := by
  have e0 : ∀ b, pw_I w' r b = pw_I w r b := fun b => e 0 (by decide) b
  unfold RXH
  simp only [e0, e 1 (by decide), e 2 (by decide), e 3 (by decide), e 4 (by decide), e 5 (by decide), e 6 (by decide), e 7 (by decide), e 8 (by decide), e 9 (by decide), e 10 (by decide), e 11 (by decide)]
  exact hH
theorem RXD.of {h : aH} {w : pw_W} {r : Nat} (hH : RXH h w r) : RXD h 0 w r := ⟨hH.I (fun c _ b => pw_I_self hH.1.2.2.1 _ _), hH.1.2.2.1⟩
theorem RXD.to {h : aH} {w : pw_W} {r : Nat} (hH : RXD h 0 w r) : RXH h w r := hH.1.I (fun c _ b => (pw_I_self hH.2 _ _).symm)
theorem RXD.ag {h : aH} {x : Nat} {w w' : pw_W} {r : Nat} {S : List Nat} (hH : RXD h x w r) (ha : ag S w w') (n : ∀ k, k ≤ 11 → r + k ∉ S) : RXD h x w' r :=
  ⟨hH.1.I (fun c hc b => by rw [pw_I_sI, pw_I_sI, ha.I (n c hc)]), (ha.I (n 0 (by decide)) 8).trans hH.2⟩
theorem RXD.np {h : aH} {x : Nat} {w : pw_W} {r : Nat} (hH : RXD h x w r) : pw_I w r 0 = nI (aNp h) := by
  have := hH.1.1.1
  rw [pw_oth (fun _ z => by omega)] at this
  exact this
theorem RXD.nm {h : aH} {x : Nat} {w : pw_W} {r : Nat} (hH : RXD h x w r) : pw_I w r 4 = nI (aNm h) := by
  have := hH.1.1.2.1
  rw [pw_oth (fun _ z => by omega)] at this
  exact this
theorem RXD.len {h : aH} {x : Nat} {w : pw_W} {r : Nat} (hH : RXD h x w r) : pw_I w (r + 10) 2 = nI (aPr h).length := by
  have := hH.1.2.2.2.2.2.1
  rw [pw_oth (fun _ z => by omega)] at this
  exact this
theorem XD.ag {t : ct_T} {D : DS} {w w' : pw_W} {S : List Nat} (h : XD t D w) (ha : ag S w w') (n16 : 16 ∉ S) (n20 : 20 ∉ S) (n21 : 21 ∉ S) (nH : ∀ k, k ≤ 11 → t.2.1 + k ∉ S) : XD t D w' :=
  ⟨h.1.ag ha nH, fun i hi => (ha.L n20 i).trans (h.2.1 i hi), fun i hi => (ha.L n21 i).trans (h.2.2.1 i hi), (ha.I n16 4).trans h.2.2.2⟩
section XPA
variable {E : px_E} {d : Nat} {w w0 : pw_W} {Q : Option Value → pw_W → Prop} {t : ct_T} {T : Nat → Nat} {n p : Nat} {D : DS}
/-- where reading starts -/
def XS0 (t : ct_T) (T : Nat → Nat) (n : Nat) (w0 : pw_W) : Prop := t.2.2 = 2 ∧ is_Hamlet t.2.1 ∧ (∀ i, i < n → T i < 256) ∧ n ≤ 1600 ∧ (∀ i, i < n → pw_I w0 2 i = js_i2b (nI (T i))) ∧ XK w0
theorem XS0.n2 (h : XS0 t T n w0) : 2 ∉ dX t ∧ 18 ∉ dX t := by
  rcases h.2.1 with e | e <;> unfold dX <;> rw [e] <;> decide
/-- no fault yet, the token at p -/
def XG (t : ct_T) (T : Nat → Nat) (n p : Nat) (D : DS) (w0 w : pw_W) : Prop := w.1 = cs t ∧ ag (dX t) w0 w ∧ p ≤ n ∧ XTk T n p w ∧ pw_I w 16 5 = 0 ∧ pw_I w 16 6 = -1 ∧ XD t D w
/-- a fault -/
def XBd (t : ct_T) (T : Nat → Nat) (n : Nat) (e : Nat × Nat) (w0 w : pw_W) : Prop := w.1 = cs t ∧ ag (dX t) w0 w ∧ pw_I w 16 5 = nI e.1 ∧ (1 ≤ e.1 ∧ e.1 ≤ 5) ∧ pw_I w 16 6 = nI e.2 ∧ (∃ p, p ≤ n ∧ XTk T n p w) ∧ ∃ j, j ≤ 270 ∧ pw_I w (t.2.1 + 10) 2 = nI j
/-- the fault of a token that cannot stand -/
def rfu (T : Nat → Nat) (n p : Nat) : Nat × Nat := (if tC T n p = 1 then 1 else 2, tQ T n p)
theorem XG.len (hD : (aPr (dH D)).length ≤ 270) (h : XG t T n p D w0 w) : ∃ j, j ≤ 270 ∧ pw_I w (t.2.1 + 10) 2 = nI j := ⟨(aPr (dH D)).length, hD, h.2.2.2.2.2.2.1.len⟩
theorem WD.len (hD : WD D) : (aPr (dH D)).length ≤ 270 := hD.1.2.2.2.2.2.2.2.2.2.2.2.2.2
theorem XBd.ne {e : Nat × Nat} (h : XBd t T n e w0 w) : ¬ pw_I w 16 5 = 0 := by
  have := h.2.2.2.1
  rw [h.2.2.1]
  exact fun z => by have := za_eq (b := 0) (by omega) (by decide) z; omega
/-- a world that differs where reading may change, not in the scanner, the fault, or the formula's length -/
theorem XBd.set {e : Nat × Nat} {w' : pw_W} (h : XBd t T n e w0 w) (h1 : w'.1 = w.1) (ha : ag (dX t) w w') (h5 : pw_I w' 16 5 = pw_I w 16 5) (h6 : pw_I w' 16 6 = pw_I w 16 6) (hk : ∀ p, XTk T n p w → XTk T n p w') (hl : ∃ j, j ≤ 270 ∧ pw_I w' (t.2.1 + 10) 2 = nI j) : XBd t T n e w0 w' :=
  ⟨h1.trans h.1, h.2.1.tr ha, h5.trans h.2.2.1, h.2.2.2.1, h6.trans h.2.2.2.2.1, h.2.2.2.2.2.1.elim fun p hp => ⟨p, hp.1, hk p hp.2⟩, hl⟩
theorem tX5_adv (hS : XS0 t T n w0) (hG : XG t T n p D w0 w) (k : ∀ w', XG t T n (tE T n p) D w0 w' → ag [17] w w' → Q none w') : px_Call E (d + 6) 0 0 mX6_advance [.ref 17] w Q := by
  obtain ⟨hw, ha, hp, hk, f5, f6, hD⟩ := hG
  have m17 : (17 : Nat) ∈ dX t := by simp
  refine tX6_advance (T := T) (n := n) (p := tE T n p) hw hS.1 hS.2.2.1 hS.2.2.2.1 (tE_le hp) (fun i hi => (ha.I hS.n2.1 i).trans (hS.2.2.2.2.1 i hi)) hk.1 hk.2.1 (hS.2.2.2.2.2.ag ha hS.n2.2) (fun w' hw' a' k' => ?_)
  refine k w' ⟨hw', ha.tr (a'.mono (fun a h => by rw [List.mem_singleton.mp h]; exact m17)), tE_le hp, k', (a'.I (by decide) 5).trans f5, (a'.I (by decide) 6).trans f6, hD.ag a' (by decide) (by decide) (by decide) (dX_H hS.2.1 (by decide))⟩ a'
theorem tX5_advB {e : Nat × Nat} (hS : XS0 t T n w0) (hB : XBd t T n e w0 w) (k : ∀ w', XBd t T n e w0 w' → ag [17] w w' → Q none w') : px_Call E (d + 6) 0 0 mX6_advance [.ref 17] w Q := by
  obtain ⟨hw, ha, f5, f9, f6, ⟨p, hp, hk⟩, j, hj, hl⟩ := hB
  have m17 : (17 : Nat) ∈ dX t := by simp
  refine tX6_advance (T := T) (n := n) (p := tE T n p) hw hS.1 hS.2.2.1 hS.2.2.2.1 (tE_le hp) (fun i hi => (ha.I hS.n2.1 i).trans (hS.2.2.2.2.1 i hi)) hk.1 hk.2.1 (hS.2.2.2.2.2.ag ha hS.n2.2) (fun w' hw' a' k' => ?_)
  refine k w' ⟨hw', ha.tr (a'.mono (fun a h => by rw [List.mem_singleton.mp h]; exact m17)), (a'.I (by decide) 5).trans f5, f9, (a'.I (by decide) 6).trans f6, ⟨_, tE_le hp, k'⟩, j, hj, (a'.I (dX_H hS.2.1 (by decide) 10 (by decide)) 2).trans hl⟩ a'
theorem tX5_setFaultL {x : Nat} {v : Int32} (hS : XS0 t T n w0) (hD : (aPr (dH D)).length ≤ 270) (hG : XG t T n p D w0 w) (hv : v = nI x) (hx : 1 ≤ x ∧ x ≤ 5) (k : ∀ w', XBd t T n (x, tQ T n p) w0 w' → ag [16] w w' → Q (some (.int 0)) w') : px_Call E (d + 1) 0 0 mX5_setFault [.ref 16, .int v] w Q := by
  subst hv
  have hL := hG.len hD
  obtain ⟨hw, ha, hp, hk, f5, f6, hD⟩ := hG
  have m16 : (16 : Nat) ∈ dX t := by simp
  have n16 : t.2.1 + 10 ≠ 16 := fun z => dX_H (a := 16) hS.2.1 (by decide) 10 (by decide) (by rw [z]; exact List.mem_singleton_self _)
  refine eX5_setFault hw (fun z => absurd f5 z) (fun _ => bX5_setFault_23 (hI (hI hw)) ?_)
  refine k _ ⟨hI (hI hw), ha.tr ((ag.sI m16).tr (ag.sI m16)), ?_, hx, ?_, ⟨p, hp, ?_⟩, ?_⟩ ((ag.sI (by decide)).tr (ag.sI (by decide)))
  · rw [pw_oth (by decide), pw_same]
  · rw [pw_same]; exact hk.2.2.2.1
  · exact hk.ag ((ag.sI (S := [16]) (by decide)).tr (ag.sI (by decide))) (by decide)
  · obtain ⟨j, hj, hl⟩ := hL
    exact ⟨j, hj, by rw [pw_oth (fun z _ => n16 z), pw_oth (fun z _ => n16 z)]; exact hl⟩
theorem tX5_setFault {x : Nat} {v : Int32} (hS : XS0 t T n w0) (hD : WD D) (hG : XG t T n p D w0 w) (hv : v = nI x) (hx : 1 ≤ x ∧ x ≤ 5) (k : ∀ w', XBd t T n (x, tQ T n p) w0 w' → ag [16] w w' → Q (some (.int 0)) w') : px_Call E (d + 1) 0 0 mX5_setFault [.ref 16, .int v] w Q := tX5_setFaultL hS hD.len hG hv hx k
theorem tX5_setFaultB {e : Nat × Nat} {v : Int32} (hB : XBd t T n e w0 w) (k : Q (some (.int 0)) w) : px_Call E (d + 1) 0 0 mX5_setFault [.ref 16, .int v] w Q :=
  eX5_setFault hB.1 (fun _ => bX5_setFault_23 hB.1 k) (fun z => absurd z hB.ne)
theorem tX5_refuseL (hS : XS0 t T n w0) (hD : (aPr (dH D)).length ≤ 270) (hG : XG t T n p D w0 w) (k : ∀ w', XBd t T n (rfu T n p) w0 w' → ag [16] w w' → Q (some (.int 0)) w') : px_Call E (d + 2) 0 0 mX5_refuse [.ref 16] w Q := by
  have hw := hG.1
  have h4 := hG.2.2.2.1.2.2.1
  have hc : tC T n p < 6 := by
    unfold tC
    split
    · split
      · decide
      · split <;> decide
    · split
      · split <;> decide
      · split
        · decide
        · split <;> decide
  refine eX5_refuse hw (fun z => ?_) (fun z => ?_) <;> rw [h4] at z
  · have c : ¬ tC T n p = 1 := fun q => z (by rw [q]; rfl)
    refine bX5_refuse_17 hw (tX5_setFaultL (x := 2) hS hD hG rfl (by decide) (fun w' h a => bX5_refuse_20 h.1 (Or.inl rfl) (k w' ?_ a)))
    unfold rfu
    rw [if_neg c]
    exact h
  · have c : tC T n p = 1 := za_eq (b := 1) (by omega) (by decide) z
    refine bX5_refuse_17 hw (tX5_setFaultL (x := 1) hS hD hG rfl (by decide) (fun w' h a => bX5_refuse_20 h.1 (Or.inl rfl) (k w' ?_ a)))
    unfold rfu
    rw [if_pos c]
    exact h
theorem tX5_refuse (hS : XS0 t T n w0) (hD : WD D) (hG : XG t T n p D w0 w) (k : ∀ w', XBd t T n (rfu T n p) w0 w' → ag [16] w w' → Q (some (.int 0)) w') : px_Call E (d + 2) 0 0 mX5_refuse [.ref 16] w Q := tX5_refuseL hS hD.len hG k
theorem tX5_refuseB {e : Nat × Nat} (hB : XBd t T n e w0 w) (k : Q (some (.int 0)) w) : px_Call E (d + 2) 0 0 mX5_refuse [.ref 16] w Q :=
  eX5_refuse hB.1 (fun _ => bX5_refuse_17 hB.1 (tX5_setFaultB hB (bX5_refuse_20 hB.1 (Or.inl rfl) k))) (fun _ => bX5_refuse_17 hB.1 (tX5_setFaultB hB (bX5_refuse_20 hB.1 (Or.inl rfl) k)))
end XPA
