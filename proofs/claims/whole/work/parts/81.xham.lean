/-! hamlet: the class -/
def s0 (h : aH) : aS := (aFm h, aLu h, 0, 0, aDr h)
/-- a text was read -/
def gHam (g : GG) (h : aH) : GG := (h, s0 h, ((fun _ => s0 h), 0, 0), (gX g, 0), (gG g, 0, gT g), (gY g, 0), (gP g, 0), (0, -1))
/-- a text had a fault -/
def gFlt (g : GG) (e : Nat × Nat) : GG := (gH g, gS g, (gR g, gA g, gB g), (gX g, gU g), (gG g, gN g, gT g), (gY g, gC g), (gP g, 0), (nI e.1, nI e.2))
theorem WG.ham {g : GG} {h : aH} (hg : WG g) (hh : aWH h) : WG (gHam g h) := by
  have hs : aW9 h (s0 h) := ⟨⟨fun i hi => ⟨(hh.2.2.2.2.2.2.2.1 i hi).1, (hh.2.2.2.2.2.2.2.1 i hi).2.2⟩, by show 0 < 512; decide, by show 0 < 5000; decide, by have := hh.2.2.2.2.2.1; show aDr h < 1000; omega⟩, Nat.zero_le _⟩
  exact ⟨hh, ⟨rfl, Nat.le_refl _, Nat.zero_le _, fun i _ => hs⟩, ⟨by show 0 < 8; decide, fun i _ z => by have z : (0 : Nat).testBit i = true := z; rw [Nat.zero_testBit] at z; cases z⟩, ⟨Nat.zero_le _, hg.2.2.2.1.2.1, fun j hj => absurd hj (Nat.not_lt_zero j)⟩, Nat.zero_le _, Nat.zero_le _, hg.2.2.2.2.2.2⟩
theorem WG.flt {g : GG} {e : Nat × Nat} (hg : WG g) : WG (gFlt g e) := ⟨hg.1, hg.2.1, hg.2.2.1, hg.2.2.2.1, hg.2.2.2.2.1, Nat.zero_le _, hg.2.2.2.2.2.2⟩
section XHM
variable {E : px_E} {d : Nat} {w : pw_W} {Q : Option Value → pw_W → Prop} {t : ct_T} {g : GG}
theorem tX9_hamlet (hg : WG g) (hR : RX t g w)
    (k1 : ∀ D', pAll (gP g) (gL g) (gL g + 1) D0 0 = .inr D' → WD D' → ∀ t' w', RX t' (gHam g (dH D')) w' → agX w w' → Q (some (.int (nI (aNp (dH D'))))) w')
    (k0 : ∀ e, pAll (gP g) (gL g) (gL g + 1) D0 0 = .inl e → 1 ≤ e.1 ∧ e.1 ≤ 5 → ∀ t' w', RX t' (gFlt g e) w' → agX w w' → Q (some (.int (-1))) w') : px_Call E (d + 120) 0 0 mX9_hamlet [.ref 1] w Q := by
  obtain ⟨hw, ht, hH, hS, hL, hB, hG, hC, hY, hT, hF, hK⟩ := hR
  have h1 := ht.1
  have h2 := ht.2.1
  have ne := ht.2.2.1
  have np := hg.1.1
  have nd : ∀ a ∈ [1, 2, 18, 35, 36, 37, 38, 39, 40, 48, 49, 50, 51, 52, 53, 54, 55, 60], a ∉ dX t := by
    rcases h2 with e | e <;> unfold dX <;> rw [e] <;> decide
  have nt1 : ∀ k, k ≤ 11 → t.1 + k ∉ dX t := fun k hk z => by
    rcases h1 with e1 | e1 <;> rcases h2 with e2 | e2 <;> rw [e1] at z ne <;> unfold dX at z <;> rw [e2] at z ne <;> first | exact ne rfl | (simp at z; omega)
  have lt61 : ∀ a ∈ dX t, a < 61 := by
    rcases h2 with e | e <;> unfold dX <;> rw [e] <;> decide
  refine eX9_hamlet hw h1 (tX5_read (T := gP g) (n := gL g) hF.2.2.1 hw h2 (fun i _ => hg.2.2.2.2.2.2 i) hg.2.2.2.2.2.1 hT hK (fun D' hA hD w1 hw1 a1 r1 f5 f6 => ?_) (fun e hA w1 hw1 a1 he f5 f6 => ?_))
  · refine bX9_hamlet_15 hw1 h1 (fun _ => ?_) (fun z => absurd z (by decide))
    obtain ⟨w2, e2⟩ : ∃ w2, w2 = pw_sI (pw_sI (pw_sI w1 1 1 0) 1 3 (pw_I w1 16 5)) 1 4 (pw_I w1 16 6) := ⟨_, rfl⟩
    rw [← e2]
    have hw2 : w2.1 = cs (t.1, t.2.1, 2) := by rw [e2]; exact hI (hI (hI hw1))
    have a2 : ag [1] w1 w2 := by rw [e2]; exact (ag.sI (by decide)).tr ((ag.sI (by decide)).tr (ag.sI (by decide)))
    have hw3 : (pw_sR w2 16 3 t.1).1 = cs (t.1, t.1, 2) := cs_sR_16_3 hw2
    have hw4 : (pw_sR (pw_sR w2 16 3 t.1) 1 2 t.2.1).1 = cs (t.2.1, t.1, 2) := cs_sR_1_2 hw3
    refine eX5_swapDraft hw2 h1 h2 (bX9_hamlet_61 hw3 h1 h2 ?_)
    have n1H : ∀ k, k ≤ 11 → t.2.1 + k ∉ [1] := fun k hk z => by
      have := List.mem_singleton.mp z
      rcases h2 with e | e <;> rw [e] at this <;> omega
    have r4 : RXH (dH D') (pw_sR (pw_sR w2 16 3 t.1) 1 2 t.2.1) t.2.1 := by
      have r3 : RXH (dH D') w2 t.2.1 := r1.ag a2 n1H
      exact r3
    refine tX8_setAsTold hw4 (Or.inl rfl) h2 r4 hD.1 (fun w5 a5 s5 => ?_)
    have hw5 : w5.1 = cs (t.2.1, t.1, 2) := a5.1.trans hw4
    refine bX9_hamlet_75 (t := (t.2.1, t.1, 2)) hw5 h2 (tX3_restart hw5 hD.1.1 s5 (fun w6 a6 l6 => ?_))
    have hw6 : w6.1 = cs (t.2.1, t.1, 2) := a6.1.trans hw5
    refine bX9_hamlet_86 (t := (t.2.1, t.1, 2)) hw6 h2 (eX7_forget hw6 ?_)
    obtain ⟨w7, e7⟩ : ∃ w7, w7 = pw_sI (pw_sI w6 48 10 0) 48 7 0 := ⟨_, rfl⟩
    rw [← e7]
    have hw7 : w7.1 = cs (t.2.1, t.1, 2) := by rw [e7]; exact hI (hI hw6)
    have a7 : ag [48] w6 w7 := by rw [e7]; exact (ag.sI (by decide)).tr (ag.sI (by decide))
    refine bX9_hamlet_93 (t := (t.2.1, t.1, 2)) hw7 h2 ?_
    obtain ⟨w8, e8⟩ : ∃ w8, w8 = pw_sI (pw_sI w7 1 14 0) 1 9 0 := ⟨_, rfl⟩
    rw [← e8]
    have hw8 : w8.1 = cs (t.2.1, t.1, 2) := by rw [e8]; exact hI (hI hw7)
    have a8 : ag [1] w7 w8 := by rw [e8]; exact (ag.sI (by decide)).tr (ag.sI (by decide))
    have nH : ∀ S : List Nat, (∀ a ∈ S, a ∈ [1, 35, 36, 37, 38, 39, 48]) → ∀ k, k ≤ 11 → t.2.1 + k ∉ S := fun S hS k hk z => by
      have := hS _ z
      rcases h2 with e | e <;> rw [e] at this <;> simp at this <;> omega
    have r8 : RXH (dH D') w8 t.2.1 := (((r4.ag a5 (nH _ (by decide))).ag a6 (nH _ (by decide))).ag a7 (nH _ (by decide))).ag a8 (nH _ (by decide))
    have far : ∀ a, a ∉ [1, 35, 36, 37, 38, 39, 48] → pw_I w8 a = pw_I w1 a ∧ pw_L w8 a = pw_L w1 a := fun a ha => by
      have q : ∀ S : List Nat, (∀ b ∈ S, b ∈ [1, 35, 36, 37, 38, 39, 48]) → a ∉ S := fun S hS z => ha (hS a z)
      have c2 := a2.2 a (q _ (by decide))
      have c5 := a5.2 a (q _ (by decide))
      have c6 := a6.2 a (q _ (by decide))
      have c7 := a7.2 a (q _ (by decide))
      have c8 := a8.2 a (q _ (by decide))
      exact ⟨c8.1.trans (c7.1.trans (c6.1.trans (c5.1.trans c2.1))), c8.2.trans (c7.2.trans (c6.2.trans (c5.2.trans c2.2)))⟩
    have f1 : ∀ k, k ≠ 14 → k ≠ 9 → pw_I w8 1 k = pw_I w2 1 k := fun k q1 q2 => by
      rw [e8, pw_oth (fun _ z => q2 z), pw_oth (fun _ z => q1 z), a7.I (by decide), a6.I (by decide), a5.I (by decide)]; rfl
    have RXn : RX (t.2.1, t.1, 2) (gHam g (dH D')) w8 := by
      refine ⟨hw8, ⟨h2, h1, fun z => ne z.symm, Or.inr rfl⟩, r8, ?_, ?_, fun i _ z => ?_, ⟨?_, ?_, fun c _ j hj => absurd hj (Nat.not_lt_zero j), fun j hj => absurd hj (Nat.not_lt_zero j)⟩, Or.inl ?_, fun i hi => absurd hi (Nat.not_lt_zero i), fun i hi => absurd hi (Nat.not_lt_zero i), ⟨?_, ?_, ?_, ?_, ?_⟩, fun i hi => ?_⟩
      · exact ((s5.ag a6 (by decide) (by decide) (by decide)).ag a7 (by decide) (by decide) (by decide)).ag a8 (by decide) (by decide) (by decide)
      · exact (l6.ag hD.1.1 a7 ⟨by decide, by decide⟩).ag hD.1.1 a8 ⟨by decide, by decide⟩
      · have z : (0 : Nat).testBit i = true := z
        rw [Nat.zero_testBit] at z; cases z
      · rw [a8.I (by decide), e7, pw_oth (by decide), pw_same]; rfl
      · rw [a8.I (by decide), e7, pw_oth (by decide), pw_oth (by decide), a6.I (by decide), a5.I (by decide)]
        show pw_I w2 48 11 = _
        rw [a2.I (by decide), (a1 48 (nd 48 (by decide))).1]
        exact hG.2.1
      · rw [a8.I (by decide), e7, pw_same]
      · rw [e8, pw_same]; rfl
      · rw [e8, pw_oth (by decide), pw_same]; rfl
      · rw [f1 1 (by decide) (by decide), e2, pw_oth (by decide), pw_oth (by decide), pw_same]; rfl
      · rw [f1 3 (by decide) (by decide), e2, pw_oth (by decide), pw_same, f5]; rfl
      · rw [f1 4 (by decide) (by decide), e2, pw_same, f6]; rfl
      · rw [(far 18 (by decide)).2, (a1 18 (nd 18 (by decide))).2]; exact hK i hi
    rw [show pw_I w8 (t.2.1, t.1, 2).1 0 = nI (aNp (dH D')) from r8.1.1]
    refine k1 D' hA hD _ w8 RXn (fun a ha => ?_)
    have q1 := far a (fun z => by simp at z; omega)
    have q2 := a1 a (fun z => by have := lt61 a z; omega)
    exact ⟨q1.1.trans q2.1, q1.2.trans q2.2⟩
  · refine bX9_hamlet_15 hw1 h1 (fun z => absurd rfl z) (fun _ => ?_)
    obtain ⟨w2, e2⟩ : ∃ w2, w2 = pw_sI (pw_sI (pw_sI w1 1 1 0) 1 3 (pw_I w1 16 5)) 1 4 (pw_I w1 16 6) := ⟨_, rfl⟩
    rw [← e2]
    have hw2 : w2.1 = cs (t.1, t.2.1, 2) := by rw [e2]; exact hI (hI (hI hw1))
    have a2 : ag [1] w1 w2 := by rw [e2]; exact (ag.sI (by decide)).tr ((ag.sI (by decide)).tr (ag.sI (by decide)))
    have A : ag (dX t) ((w1.1, w.2) : pw_W) w1 := ⟨rfl, a1⟩
    have n11 : ∀ k, k ≤ 11 → t.1 + k ∉ [1] := fun k hk z => by
      have := List.mem_singleton.mp z
      rcases h1 with e | e <;> rw [e] at this <;> omega
    have m : ∀ a ∈ [1, 2, 18, 35, 36, 37, 38, 39, 40, 48, 49, 50, 51, 52, 53, 54, 55, 60], a ∉ dX t := nd
    have f1 : ∀ k, k ≠ 1 → k ≠ 3 → k ≠ 4 → pw_I w2 1 k = pw_I w 1 k := fun k q1 q2 q3 => by
      rw [e2, pw_oth (fun _ z => q3 z), pw_oth (fun _ z => q2 z), pw_oth (fun _ z => q1 z), (a1 1 (nd 1 (by decide))).1]
    have RXn : RX (t.1, t.2.1, 2) (gFlt g e) w2 := by
      have hH' : RXH (gH g) ((w1.1, w.2) : pw_W) t.1 := hH
      have hS' : RXS (gH g) (gS g) ((w1.1, w.2) : pw_W) 35 := hS
      have hL' : XL (gH g) (gR g) (gA g) (gB g) ((w1.1, w.2) : pw_W) := hL
      have hB' : XB g ((w1.1, w.2) : pw_W) := hB
      have hG' : XSg (gG g) (gN g) (gT g) ((w1.1, w.2) : pw_W) := hG
      have hC' : XCh (gH g) ((w1.1, w.2) : pw_W) := hC
      have hY' : XY g ((w1.1, w.2) : pw_W) := hY
      have hK' : XK ((w1.1, w.2) : pw_W) := hK
      refine ⟨hw2, ⟨h1, h2, ne, Or.inr rfl⟩, (hH'.ag A nt1).ag a2 n11, ?_, ?_, ?_, ?_, ?_, ?_, fun i hi => absurd hi (Nat.not_lt_zero i), ⟨?_, ?_, ?_, ?_, ?_⟩, ?_⟩
      · exact (hS'.ag A (m 35 (by decide)) (m 36 (by decide)) (m 37 (by decide))).ag a2 (by decide) (by decide) (by decide)
      · exact (hL'.ag np A ⟨m 38 (by decide), m 39 (by decide)⟩).ag np a2 ⟨by decide, by decide⟩
      · exact (hB'.ag np A (m 40 (by decide))).ag np a2 (by decide)
      · exact (hG'.ag A (fun a h => m a (by simp at h ⊢; omega))).ag a2 (fun a h => by simp at h ⊢; omega)
      · exact (hC'.ag A ⟨m 48 (by decide), m 55 (by decide)⟩).ag a2 ⟨by decide, by decide⟩
      · exact (hY'.ag A (m 60 (by decide))).ag a2 (by decide)
      · rw [f1 9 (by decide) (by decide) (by decide)]; exact hF.1
      · rw [f1 14 (by decide) (by decide) (by decide)]; exact hF.2.1
      · rw [e2, pw_oth (by decide), pw_oth (by decide), pw_same]; rfl
      · rw [e2, pw_oth (by decide), pw_same, f5]; rfl
      · rw [e2, pw_same, f6]; rfl
      · exact (hK'.ag A (m 18 (by decide))).ag a2 (by decide)
    refine k0 e hA he _ w2 RXn (fun a ha => ?_)
    have q1 := a2.2 a (fun z => by have := List.mem_singleton.mp z; omega)
    have q2 := a1 a (fun z => by have := lt61 a z; omega)
    exact ⟨q1.1.trans q2.1, q1.2.trans q2.2⟩
end XHM
