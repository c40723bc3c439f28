/-- the reference's draft -/
def MDh (h : aH) (w : pw_W) : Prop := (pw_I w 61 45 = nI (aNp h) ∧ pw_I w 61 46 = nI (aNm h) ∧ pw_I w 61 47 = nI (aNb h) ∧ pw_I w 61 48 = nI (aBd h) ∧ pw_I w 61 49 = nI (aFl h) ∧ pw_I w 61 50 = nI (aDr h) ∧ pw_I w 61 20 = nI (aUn h)) ∧
  (∀ i, i < aNp h → pw_I w 71 i = nI (aFm h i) ∧ pw_I w 72 i = nI (aLe h i) ∧ pw_I w 73 i = nI (aLu h i)) ∧
  (∀ i, i < aNm h → pw_I w 74 i = nI (aFi h i) ∧ pw_I w 75 i = nI (aSe h i) ∧ pw_I w 76 i = nI (aWk h i)) ∧
  (∀ b, b < aNb h → pw_I w 77 b = nI (aCo h b) ∧ pw_I w 79 b = nI (aRs h b)) ∧ (∀ b, b < aNb h → ∀ k, k < aRs h b → pw_I w 78 (6 * b + k) = nI (aRo h (6 * b + k)))
def MDn (D : DS) (w : pw_W) : Prop := (∀ i, i < dK D → pw_L w 63 i = Int64.ofNat (e256 (dP D i))) ∧ ∀ i, i < dJ D → pw_L w 63 (6 + i) = Int64.ofNat (e256 (dB D i))
def MDo (D : DS) (w : pw_W) : Prop := pw_I w 61 24 = jb ((dO D).testBit 3 = true) ∧ pw_I w 61 57 = jb ((dO D).testBit 9 = true) ∧ pw_I w 61 58 = jb ((dO D).testBit 10 = true) ∧ pw_I w 61 59 = jb ((dO D).testBit 11 = true)
def mFmN (pr : List Int32) (w : pw_W) : Prop := pw_I w 61 17 = nI pr.length ∧ ∀ i, i < pr.length → mStp (pw_I w 64 i) (pw_I w 65 i) (pr.getD i 0)
/-- the formula told, as the reference keeps it while it reads -/
def MDf (D : DS) (w : pw_W) : Prop := ((dO D).testBit 3 = false → aPr (dH D) = fDef) ∧ ((dO D).testBit 3 = true → mFmN (aPr (dH D)) w)
def MD (D : DS) (w : pw_W) : Prop := MDh (dH D) w ∧ MDn D w ∧ MDo D w ∧ MDf D w
theorem MD.agF {D : DS} {w w' : pw_W} {S F : List Nat} (h : MD D w) (ha : agF S F w w') (hs : ∀ a ∈ [61, 63, 64, 65, 71, 72, 73, 74, 75, 76, 77, 78, 79], a ∉ S) (hf : ∀ a ∈ [17, 20, 24, 45, 46, 47, 48, 49, 50, 57, 58, 59], a ∉ F) : MD D w' := by
  have n0 := hs 61 (by decide)
  have f : ∀ a ∈ [17, 20, 24, 45, 46, 47, 48, 49, 50, 57, 58, 59], pw_I w' 61 a = pw_I w 61 a := fun a h => ha.F n0 (hf a h)
  have c : ∀ a ∈ [63, 64, 65, 71, 72, 73, 74, 75, 76, 77, 78, 79], ∀ k, pw_I w' a k = pw_I w a k ∧ pw_L w' a k = pw_L w a k := fun a h k => ha.2 a k (hs a (List.mem_cons_of_mem _ h)) (fun e => by rw [e] at h; exact absurd h (by decide))
  obtain ⟨⟨h1, h2, h3, h4, h5⟩, ⟨n1, n2⟩, h7, h8⟩ := h
  refine ⟨⟨?_, fun i hi => ?_, fun i hi => ?_, fun b hb => ?_, fun b hb k hk => ?_⟩, ⟨fun i hi => ?_, fun i hi => ?_⟩, ?_, h8.1, fun z => ⟨?_, fun i hi => ?_⟩⟩
  · rw [f 45 (by decide), f 46 (by decide), f 47 (by decide), f 48 (by decide), f 49 (by decide), f 50 (by decide), f 20 (by decide)]; exact h1
  · rw [(c 71 (by decide) i).1, (c 72 (by decide) i).1, (c 73 (by decide) i).1]; exact h2 i hi
  · rw [(c 74 (by decide) i).1, (c 75 (by decide) i).1, (c 76 (by decide) i).1]; exact h3 i hi
  · rw [(c 77 (by decide) b).1, (c 79 (by decide) b).1]; exact h4 b hb
  · rw [(c 78 (by decide) _).1]; exact h5 b hb k hk
  · rw [(c 63 (by decide) _).2]; exact n1 i hi
  · rw [(c 63 (by decide) _).2]; exact n2 i hi
  · unfold MDo; rw [f 24 (by decide), f 57 (by decide), f 58 (by decide), f 59 (by decide)]; exact h7
  · rw [f 17 (by decide)]; exact (h8.2 z).1
  · rw [(c 64 (by decide) i).1, (c 65 (by decide) i).1]; exact (h8.2 z).2 i hi
def MS0 (T : Nat → Nat) (n : Nat) (w0 : pw_W) : Prop := (∀ i, i < n → T i < 256) ∧ n ≤ 1600 ∧ ∀ i, i < n → pw_I w0 62 i = nI (T i)
def MG (t : ct_T) (T : Nat → Nat) (n p : Nat) (D : DS) (w0 w : pw_W) : Prop := w.1 = cs t ∧ agF pcM pfM w0 w ∧ p ≤ n ∧ MTk T n p w ∧ pw_I w 61 2 = 0 ∧ pw_I w 61 3 = -1 ∧ MD D w
def MBd (t : ct_T) (e : Nat × Nat) (D : DS) (w0 w : pw_W) : Prop := w.1 = cs t ∧ agF pcM pfM w0 w ∧ pw_I w 61 2 = nI e.1 ∧ (1 ≤ e.1 ∧ e.1 ≤ 5) ∧ pw_I w 61 3 = nI e.2 ∧ pw_I w 61 45 = nI (aNp (dH D)) ∧ pw_I w 61 46 = nI (aNm (dH D)) ∧ pw_I w 61 47 = nI (aNb (dH D))
/-- fields that reading a token, or a fault, changes -/
abbrev tfM : List Nat := [2, 3, 4, 6, 7, 8, 9]
theorem tfM_p {S : List Nat} {w w' : pw_W} (hs : ∀ a ∈ S, a ∈ pcM) (h : agF S tfM w w') : agF pcM pfM w w' := h.mono hs (by decide)
section MPA
variable {E : px_E} {d : Nat} {w w0 : pw_W} {Q : Option Value → pw_W → Prop} {t : ct_T} {T : Nat → Nat} {n p : Nat} {D : DS}
theorem MBd.gt {e : Nat × Nat} (h : MBd t e D w0 w) : ¬ pw_I w 61 2 ≤ 0 ∧ ¬ pw_I w 61 2 = 0 := by
  have := h.2.2.2.1
  rw [h.2.2.1]
  exact ⟨nI_ge (a := 0) (by omega) (by omega), fun z => by have := za_eq (b := 0) (by omega) (by decide) z; omega⟩
theorem MG.le (h : MG t T n p D w0 w) : pw_I w 61 2 ≤ 0 := by rw [h.2.2.2.2.1]; exact Int32.le_refl _
theorem MBd.agF {e : Nat × Nat} {w' : pw_W} {S F : List Nat} (h : MBd t e D w0 w) (ha : agF S F w w') (h61 : 61 ∉ S) (hs : ∀ a ∈ S, a ∈ pcM) (hf : ∀ a ∈ F, a ∈ pfM) (hf2 : ∀ a ∈ [2, 3, 45, 46, 47], a ∉ F) : MBd t e D w0 w' :=
  ⟨ha.1.trans h.1, h.2.1.tr (ha.mono hs hf), (ha.F h61 (hf2 2 (by decide))).trans h.2.2.1, h.2.2.2.1, (ha.F h61 (hf2 3 (by decide))).trans h.2.2.2.2.1, (ha.F h61 (hf2 45 (by decide))).trans h.2.2.2.2.2.1, (ha.F h61 (hf2 46 (by decide))).trans h.2.2.2.2.2.2.1, (ha.F h61 (hf2 47 (by decide))).trans h.2.2.2.2.2.2.2⟩
theorem tX10_tok (hS : MS0 T n w0) (hG : MG t T n p D w0 w) (hc : tC T n p ≠ 1) (k : ∀ w', MG t T n (tE T n p) D w0 w' → agF [] tfM w w' → Q none w') : px_Call E (d + 2) 0 0 mX10_token [.ref 61] w Q := by
  obtain ⟨hw, ha, hp, hk, f2, f3, hD⟩ := hG
  have h4 := hk.2.1
  rw [if_neg hc] at h4
  refine tX10_token (T := T) (n := n) (p := tE T n p) hw hS.1 hS.2.1 (tE_le hp) (fun i hi => (ha.I (by decide) (by decide) i).trans (hS.2.2 i hi)) hk.1 h4 (fun w' hw' a' k' => ?_)
  have a2 : agF [] tfM w w' := a'.mono (fun a h => h) (by decide)
  exact k w' ⟨hw', ha.tr (a'.mono (fun a h => absurd h List.not_mem_nil) (by decide)), tE_le hp, k', (a'.F List.not_mem_nil (by decide)).trans f2, (a'.F List.not_mem_nil (by decide)).trans f3, hD.agF a' (fun a _ => List.not_mem_nil) (by decide)⟩ a2
theorem tX10_wrongG {x : Nat} {v : Int32} (hv : v = nI x) (hx : 1 ≤ x ∧ x ≤ 5) (hG : MG t T n p D w0 w) (hT : ∀ i, i < n → T i < 256) (k : ∀ w', MBd t (if tC T n p = 1 then 1 else x, tQ T n p) D w0 w' → agF [] tfM w w' → Q none w') : px_Call E (d + 1) 0 0 mX10_wrong [.ref 61, .int v] w Q := by
  subst hv
  have hle := hG.le
  obtain ⟨hw, ha, hp, hk, f2, f3, hD⟩ := hG
  have fin : ∀ y, 1 ≤ y ∧ y ≤ 5 → (if tC T n p = 1 then 1 else x) = y → Q none (pw_sI (pw_sI w 61 2 (nI y)) 61 3 (pw_I w 61 7)) := fun y hy ey => by
    have a2 : agF [] tfM w (pw_sI (pw_sI w 61 2 (nI y)) 61 3 (pw_I w 61 7)) := (agF.sI (by decide)).tr (agF.sI (by decide))
    refine k _ ⟨hI (hI hw), ha.tr (tfM_p (fun a h => absurd h List.not_mem_nil) a2), ?_, ?_, ?_, ?_, ?_, ?_⟩ a2
    · rw [pw_oth (by decide), pw_same, ey]
    · rw [ey]; exact hy
    · rw [pw_same]; exact hk.2.2.2.1
    · rw [pw_oth (by decide), pw_oth (by decide)]; exact hD.1.1.1
    · rw [pw_oth (by decide), pw_oth (by decide)]; exact hD.1.1.2.1
    · rw [pw_oth (by decide), pw_oth (by decide)]; exact hD.1.1.2.2.1
  refine eX10_wrong hw (fun _ z => ?_) (fun _ z => ?_) (fun z => absurd hle z) <;> rw [hk.2.2.1, mS_3 hT hp] at z
  · exact bX10_wrong_22 hw (fin x hx (if_neg z))
  · exact bX10_wrong_22 hw (fin 1 (by decide) (if_pos z))
theorem tX10_wrongB {e : Nat × Nat} {v : Int32} (hB : MBd t e D w0 w) (k : Q none w) : px_Call E (d + 1) 0 0 mX10_wrong [.ref 61, .int v] w Q :=
  eX10_wrong hB.1 (fun z => absurd z hB.gt.1) (fun z => absurd z hB.gt.1) (fun _ => k)
theorem tX10_want {x : Nat} {v : Int64} (hv : v = Int64.ofNat (e256 (kwS.getD x []))) (hx : x < 20) (hS : MS0 T n w0) (hG : MG t T n p D w0 w) (k1 : ∀ q, pKw T n x p = .inr q → ∀ w', MG t T n q D w0 w' → agF [] tfM w w' → Q none w') (k0 : ∀ e, pKw T n x p = .inl e → ∀ w', MBd t e D w0 w' → agF [] tfM w w' → Q none w') : px_Call E (d + 3) 0 0 mX10_want [.ref 61, .long v] w Q := by
  refine eX10_want hG.1 (fun _ z => ?_) (fun _ z => ?_) (fun z => absurd hG.le z) <;> rw [hG.2.2.2.1.kw hv hx] at z
  · exact tX10_tok hS hG (by omega) (fun w' g' a' => bX10_want_28 g'.1 (k1 _ (if_pos z) w' g' a'))
  · refine tX10_wrongG (x := 2) rfl (by decide) hG hS.1 (fun w' b' a' => bX10_want_21 b'.1 (bX10_want_28 b'.1 (k0 _ (if_neg z) w' b' a')))
theorem tX10_wantB {e : Nat × Nat} {v : Int64} (hB : MBd t e D w0 w) (k : Q none w) : px_Call E (d + 3) 0 0 mX10_want [.ref 61, .long v] w Q :=
  eX10_want hB.1 (fun z => absurd z hB.gt.1) (fun z => absurd z hB.gt.1) (fun _ => k)
end MPA
def pNm (T : Nat → Nat) (n lo hi q : Nat) : PR (Nat × Nat) := if tC T n q = 2 then (if tV T n q < lo ∨ hi < tV T n q then .inl (4, tQ T n q) else .inr (tE T n q, tV T n q)) else .inl (rfu T n q)
theorem pNb_eq {T : Nat → Nat} {n word lo hi p : Nat} : pNb T n word lo hi p = pB (pKw T n word p) (pNm T n lo hi) := by
  unfold pNb pB
  cases pKw T n word p <;> rfl
section MPA
variable {E : px_E} {d : Nat} {w w0 : pw_W} {Q : Option Value → pw_W → Prop} {t : ct_T} {T : Nat → Nat} {n p : Nat} {D : DS}
theorem tX10_toldNumber {lo hi : Nat} {vl vh : Int32} (hvl : vl = nI lo) (hvh : vh = nI hi) (hlo : lo < 10000) (hhi : hi < 10000) (hS : MS0 T n w0) (hG : MG t T n p D w0 w) (k1 : ∀ q a, pNm T n lo hi p = .inr (q, a) → ∀ w', MG t T n q D w0 w' → agF [] tfM w w' → Q (some (.int (nI a))) w') (k0 : ∀ e, pNm T n lo hi p = .inl e → ∀ (a : Int32) w', MBd t e D w0 w' → agF [] tfM w w' → Q (some (.int a)) w') : px_Call E (d + 3) 0 0 mX10_toldNumber [.ref 61, .int vl, .int vh] w Q := by
  subst hvl
  subst hvh
  have hw := hG.1
  have hk := hG.2.2.2.1
  have s2 : pw_I w 61 6 = 2 ↔ tC T n p = 2 := by rw [hk.2.2.1]; exact mS_2
  have bd : ∀ e w', pNm T n lo hi p = .inl e → MBd t e D w0 w' → agF [] tfM w w' → px_W E mX10_toldNumber (d + 3) 0 0 46 [.ref 61, .null, .null, .null] [] w' Q := fun e w' he b a =>
    bX10_toldNumber_46 b.1 (fun _ => bX10_toldNumber_62 b.1 (k0 e he _ w' b a)) (fun z => absurd z b.gt.2)
  have bad : tC T n p = 2 → (tV T n p < lo ∨ hi < tV T n p) → px_W E mX10_toldNumber (d + 3) 0 0 41 [.ref 61, .null, .null, .null] [] w Q := fun c z => by
    refine bX10_toldNumber_41 hw (tX10_wrongG (x := 4) rfl (by decide) hG hS.1 (fun w' b' a' => bd _ w' ?_ b' a'))
    unfold pNm
    rw [if_pos c, if_pos z, if_neg (by omega)]
  refine eX10_toldNumber hw (fun _ z1 z2 => ?_) (fun _ z1 z2 z3 => ?_) (fun _ z1 z2 z3 => ?_) (fun _ z1 => ?_) (fun z => absurd hG.le z) <;> rw [s2] at z1
  · have e8 := hk.2.2.2.2.1 z1
    have b := tC_2 z1
    rw [e8] at z2
    exact bad z1 (Or.inl (za_lt (by omega) (by omega) z2))
  · have e8 := hk.2.2.2.2.1 z1
    have b := tC_2 z1
    rw [e8] at z2 z3
    have l1 : ¬ tV T n p < lo := fun h => z2 (nI_lt h (by omega))
    have l2 := za_le (by omega) (by omega) z3
    refine bX10_toldNumber_46 hw (fun z => absurd hG.2.2.2.2.1 z) (fun _ => ?_)
    rw [e8]
    refine tX10_tok hS hG (by omega) (fun w' g' a' => bX10_toldNumber_62 g'.1 (k1 _ _ ?_ w' g' a'))
    unfold pNm
    rw [if_pos z1, if_neg (by omega)]
  · have e8 := hk.2.2.2.2.1 z1
    have b := tC_2 z1
    rw [e8] at z2 z3
    exact bad z1 (Or.inr (Nat.lt_of_not_le fun h => z3 (nI_le h (by omega))))
  · refine tX10_wrongG (x := 2) rfl (by decide) hG hS.1 (fun w' b' a' => bX10_toldNumber_22 b'.1 (bd _ w' ?_ b' a'))
    unfold pNm
    rw [if_neg z1]
    rfl
theorem tX10_told {x lo hi : Nat} {v : Int64} {vl vh : Int32} (hv : v = Int64.ofNat (e256 (kwS.getD x []))) (hx : x < 20) (hvl : vl = nI lo) (hvh : vh = nI hi) (hlo : lo < 10000) (hhi : hi < 10000) (hS : MS0 T n w0) (hG : MG t T n p D w0 w) (k1 : ∀ q a, pNb T n x lo hi p = .inr (q, a) → ∀ w', MG t T n q D w0 w' → agF [] tfM w w' → Q (some (.int (nI a))) w') (k0 : ∀ e, pNb T n x lo hi p = .inl e → ∀ (a : Int32) w', MBd t e D w0 w' → agF [] tfM w w' → Q (some (.int a)) w') : px_Call E (d + 4) 0 0 mX10_told [.ref 61, .long v, .int vl, .int vh] w Q := by
  refine eX10_told hG.1 (tX10_want hv hx hS hG (fun q hq w1 g1 a1 => ?_) (fun e he w1 b1 a1 => ?_))
  · refine bX10_told_5 g1.1 (tX10_toldNumber hvl hvh hlo hhi hS g1 (fun q2 a h2 w2 g2 a2 => ?_) (fun e he a w2 b2 a2 => ?_))
    · exact bX10_told_12 g2.1 (k1 q2 a (pNb_eq.trans ((pB_r hq).trans h2)) w2 g2 (a1.tr a2))
    · exact bX10_told_12 b2.1 (k0 e (pNb_eq.trans ((pB_r hq).trans he)) a w2 b2 (a1.tr a2))
  · refine bX10_told_5 b1.1 (eX10_toldNumber b1.1 (fun z => absurd z b1.gt.1) (fun z => absurd z b1.gt.1) (fun z => absurd z b1.gt.1) (fun z => absurd z b1.gt.1) (fun _ => ?_))
    exact bX10_told_12 b1.1 (k0 e (pNb_eq.trans (pB_l he)) _ w1 b1 a1)
theorem tX10_toldB {e : Nat × Nat} {v : Int64} {vl vh : Int32} (hB : MBd t e D w0 w) (k : Q (some (.int 0)) w) : px_Call E (d + 4) 0 0 mX10_told [.ref 61, .long v, .int vl, .int vh] w Q :=
  eX10_told hB.1 (tX10_wantB hB (bX10_told_5 hB.1 (eX10_toldNumber hB.1 (fun z => absurd z hB.gt.1) (fun z => absurd z hB.gt.1) (fun z => absurd z hB.gt.1) (fun z => absurd z hB.gt.1) (fun _ => bX10_told_12 hB.1 k))))
theorem tX10_mayTell {x hi : Nat} {v : Int64} {vh : Int32} (hv : v = Int64.ofNat (e256 (kwS.getD x []))) (hx : x < 20) (hvh : vh = nI hi) (hhi : hi < 10000) (hS : MS0 T n w0) (hG : MG t T n p D w0 w) (k1 : ∀ q a, pMay T n x hi p = .inr (q, a) → ∀ w', MG t T n q D w0 w' → agF [] tfM w w' → Q (some (.int (nI a))) w') (k0 : ∀ e, pMay T n x hi p = .inl e → ∀ (a : Int32) w', MBd t e D w0 w' → agF [] tfM w w' → Q (some (.int a)) w') : px_Call E (d + 5) 0 0 mX10_mayTell [.ref 61, .long v, .int vh] w Q := by
  refine eX10_mayTell hG.1 (fun z => absurd hG.2.2.2.2.1 z) (fun _ z => ?_) (fun _ z => ?_) <;> rw [hG.2.2.2.1.kw hv hx] at z
  · exact bX10_mayTell_25 hG.1 (bX10_mayTell_26 hG.1 (k1 p 0 (if_neg z) w hG agF.rf))
  · have M : pMay T n x hi p = pNb T n x 0 hi p := if_pos z
    refine tX10_told (lo := 0) hv hx rfl hvh (by decide) hhi hS hG (fun q a h1 w1 g1 a1 => ?_) (fun e he a w1 b1 a1 => ?_)
    · exact bX10_mayTell_22 g1.1 (bX10_mayTell_26 g1.1 (k1 q a (M.trans h1) w1 g1 a1))
    · exact bX10_mayTell_22 b1.1 (bX10_mayTell_26 b1.1 (k0 e (M.trans he) a w1 b1 a1))
theorem tX10_mayTellB {e : Nat × Nat} {v : Int64} {vh : Int32} (hB : MBd t e D w0 w) (k : Q (some (.int 0)) w) : px_Call E (d + 5) 0 0 mX10_mayTell [.ref 61, .long v, .int vh] w Q :=
  eX10_mayTell hB.1 (fun _ => bX10_mayTell_25 hB.1 (bX10_mayTell_26 hB.1 k)) (fun z => absurd z hB.gt.2) (fun z => absurd z hB.gt.2)
end MPA
