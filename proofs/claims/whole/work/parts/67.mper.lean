/-! the reference reads a PERSON, a meeting -/
theorem MD.st {D : DS} {w : pw_W} {a k : Nat} {v : Int32} (h : MD D w) (ha : a ∈ [71, 72, 73, 74, 75, 76, 77, 78, 79]) (h1 : a ≤ 73 → aNp (dH D) ≤ k) (h4 : (74 ≤ a ∧ a ≤ 76) → aNm (dH D) ≤ k) (h7 : (a = 77 ∨ a = 79) → aNb (dH D) ≤ k) (h9 : a = 78 → ∀ b, b < aNb (dH D) → ∀ j, j < aRs (dH D) b → 6 * b + j ≠ k) : MD D (pw_sI w a k v) := by
  have hr : 71 ≤ a ∧ a ≤ 79 := by simp at ha; omega
  obtain ⟨⟨g1, g2, g3, g4, g5⟩, gn, go, gf⟩ := h
  have f : ∀ b, pw_I (pw_sI w a k v) 61 b = pw_I w 61 b := fun b => pw_oth (fun z _ => by omega)
  refine ⟨⟨?_, fun i hi => ⟨?_, ?_, ?_⟩, fun i hi => ⟨?_, ?_, ?_⟩, fun b hb => ⟨?_, ?_⟩, fun b hb j hj => ?_⟩, gn, ?_, gf.1, fun z => ⟨?_, fun i hi => ?_⟩⟩
  · simp only [f]; exact g1
  · rw [pw_oth (fun z1 z2 => by have := h1 (by omega); omega)]; exact (g2 i hi).1
  · rw [pw_oth (fun z1 z2 => by have := h1 (by omega); omega)]; exact (g2 i hi).2.1
  · rw [pw_oth (fun z1 z2 => by have := h1 (by omega); omega)]; exact (g2 i hi).2.2
  · rw [pw_oth (fun z1 z2 => by have := h4 (by omega); omega)]; exact (g3 i hi).1
  · rw [pw_oth (fun z1 z2 => by have := h4 (by omega); omega)]; exact (g3 i hi).2.1
  · rw [pw_oth (fun z1 z2 => by have := h4 (by omega); omega)]; exact (g3 i hi).2.2
  · rw [pw_oth (fun z1 z2 => by have := h7 (by omega); omega)]; exact (g4 b hb).1
  · rw [pw_oth (fun z1 z2 => by have := h7 (by omega); omega)]; exact (g4 b hb).2
  · rw [pw_oth (fun z1 z2 => h9 z1.symm b hb j hj z2)]; exact g5 b hb j hj
  · unfold MDo; simp only [f]; exact go
  · rw [f]; exact (gf.2 z).1
  · rw [pw_oth (fun z _ => by omega), pw_oth (fun z _ => by omega)]; exact (gf.2 z).2 i hi
section MPA
variable {E : px_E} {d : Nat} {w w0 : pw_W} {Q : Option Value → pw_W → Prop} {t : ct_T} {T : Nat → Nat} {n p : Nat} {D : DS}
theorem MG.st {a k : Nat} {v : Int32} (hG : MG t T n p D w0 w) (ha : a ∈ [71, 72, 73, 74, 75, 76, 77, 78, 79]) (h1 : a ≤ 73 → aNp (dH D) ≤ k) (h4 : (74 ≤ a ∧ a ≤ 76) → aNm (dH D) ≤ k) (h7 : (a = 77 ∨ a = 79) → aNb (dH D) ≤ k) (h9 : a = 78 → ∀ b, b < aNb (dH D) → ∀ j, j < aRs (dH D) b → 6 * b + j ≠ k) : MG t T n p D w0 (pw_sI w a k v) := by
  have hr : 71 ≤ a ∧ a ≤ 79 := by simp at ha; omega
  have m : a ∈ pcM := by simp at ha ⊢; omega
  obtain ⟨hw, hA, hp, hk, f2, f3, hX⟩ := hG
  have a1 : agF [a] [] w (pw_sI w a k v) := agF.sC (List.mem_singleton_self _)
  have n61 : 61 ∉ [a] := fun z => by have := List.mem_singleton.mp z; omega
  exact ⟨hI hw, hA.tr (agF.sC m), hp, hk.agF a1 n61 (fun _ _ => List.not_mem_nil), (a1.F n61 List.not_mem_nil).trans f2, (a1.F n61 List.not_mem_nil).trans f3, hX.st ha h1 h4 h7 h9⟩
theorem MBd.st {e : Nat × Nat} {a k : Nat} {v : Int32} (hB : MBd t e D w0 w) (ha : a ∈ [71, 72, 73, 74, 75, 76, 77, 78, 79]) : MBd t e D w0 (pw_sI w a k v) := by
  have hr : 71 ≤ a ∧ a ≤ 79 := by simp at ha; omega
  have m : a ∈ pcM := by simp at ha ⊢; omega
  exact hB.agF (S := [a]) (F := []) (agF.sC (List.mem_singleton_self _)) (fun z => by have := List.mem_singleton.mp z; omega) (fun b hb => by rw [List.mem_singleton.mp hb]; exact m) (fun _ h => absurd h List.not_mem_nil) (fun _ _ => List.not_mem_nil)
end MPA
def pPer0 (T : Nat → Nat) (n : Nat) (D : DS) (p : Nat) : PR (Nat × DS) := pB (pNew T n (dP D) (aNp (dH D)) (tE T n p)) (fun q => pB (pNb T n 1 0 30 q) (fun a => pB (pMay T n 2 9 a.1) (fun b => pB (pMay T n 3 99 b.1) (fun c => .inr (c.1, dPer D (tW T n (tE T n p)) a.2 b.2 c.2)))))
def pFin (T : Nat → Nat) (n : Nat) (x : PR (Nat × DS)) : PR (Nat × DS) := pB x (fun r => pB (pEn T n r.1) (fun z => .inr (z, r.2)))
theorem pB_as {α β γ : Type} {x : PR α} {f : α → PR β} {g : β → PR γ} : pB (pB x f) g = pB x (fun a => pB (f a) g) := by cases x <;> rfl
theorem pPer_eq {T : Nat → Nat} {n p : Nat} {D : DS} (h : aNp (dH D) < 6) : pPer T n D p = pFin T n (pPer0 T n D p) := by
  unfold pPer pFin pPer0
  rw [if_pos h, pB_as]
  congr 1; funext q
  rw [pB_as]
  congr 1; funext a
  rw [pB_as]
  congr 1; funext b
  rw [pB_as]
  rfl
theorem MD.addP {D : DS} {w : pw_W} {l : List Nat} {f le u : Nat} (h : MD (dNP D l) w) (h1 : pw_I w 71 (aNp (dH D)) = nI f) (h2 : pw_I w 72 (aNp (dH D)) = nI le) (h3 : pw_I w 73 (aNp (dH D)) = nI u) : MD (dPer D l f le u) (pw_sI w 61 45 (nI (aNp (dH D) + 1))) := by
  obtain ⟨⟨g1, g2, g3, g4, g5⟩, gn, go, gf⟩ := h
  refine ⟨⟨⟨pw_same, ?_, ?_, ?_, ?_, ?_, ?_⟩, fun i hi => ?_, g3, g4, g5⟩, gn, ?_, gf.1, fun z => ⟨?_, (gf.2 z).2⟩⟩
  · rw [pw_oth (by omega)]; exact g1.2.1
  · rw [pw_oth (by omega)]; exact g1.2.2.1
  · rw [pw_oth (by omega)]; exact g1.2.2.2.1
  · rw [pw_oth (by omega)]; exact g1.2.2.2.2.1
  · rw [pw_oth (by omega)]; exact g1.2.2.2.2.2.1
  · rw [pw_oth (by omega)]; exact g1.2.2.2.2.2.2
  · have hi : i < aNp (dH D) + 1 := hi
    rw [pw_oth (by omega), pw_oth (by omega), pw_oth (by omega)]
    show pw_I w 71 i = nI (uN (aFm (dH D)) (aNp (dH D)) f i) ∧ pw_I w 72 i = nI (uN (aLe (dH D)) (aNp (dH D)) le i) ∧ pw_I w 73 i = nI (uN (aLu (dH D)) (aNp (dH D)) u i)
    by_cases e : i = aNp (dH D)
    · rw [e, uN_s, uN_s, uN_s]; exact ⟨h1, h2, h3⟩
    · rw [uN_o e, uN_o e, uN_o e]; exact g2 i (by show i < aNp (dH D); omega)
  · unfold MDo
    rw [pw_oth (by omega), pw_oth (by omega), pw_oth (by omega), pw_oth (by omega)]
    exact go
  · rw [pw_oth (by omega)]; exact (gf.2 z).1
section MPA
variable {E : px_E} {d : Nat} {w w0 : pw_W} {Q : Option Value → pw_W → Prop} {t : ct_T} {T : Nat → Nat} {n p : Nat} {D : DS}
theorem mPerB {e : Nat × Nat} (h6 : aNp (dH D) < 6) (k : ∀ w', MBd t e D w0 w' → Q none w') :
    (∀ w y, MBd t e D w0 w → px_W E mX10_readPerson (d + 6) 0 0 63 [.ref 61] [.int y, .int (nI (aNp (dH D))), .ref 73] w Q) ∧
    (∀ w y, MBd t e D w0 w → px_W E mX10_readPerson (d + 6) 0 0 45 [.ref 61] [.int y, .int (nI (aNp (dH D))), .ref 72] w Q) ∧
    (∀ w y, MBd t e D w0 w → px_W E mX10_readPerson (d + 6) 0 0 27 [.ref 61] [.int y, .int (nI (aNp (dH D))), .ref 71] w Q) := by
  have A : ∀ w y, MBd t e D w0 w → px_W E mX10_readPerson (d + 6) 0 0 63 [.ref 61] [.int y, .int (nI (aNp (dH D))), .ref 73] w Q := fun w y hB => by
    have b2 := hB.st (a := 73) (k := aNp (dH D)) (v := y) (by decide)
    exact bX10_readPerson_63 hB.1 _ rfl h6 (fun _ => bX10_readPerson_81 b2.1 (k _ b2)) (fun z => absurd z hB.gt.2)
  have B : ∀ w y, MBd t e D w0 w → px_W E mX10_readPerson (d + 6) 0 0 45 [.ref 61] [.int y, .int (nI (aNp (dH D))), .ref 72] w Q := fun w y hB => by
    have b2 := hB.st (a := 72) (k := aNp (dH D)) (v := y) (by decide)
    refine bX10_readPerson_45 hB.1 _ rfl h6 (tX10_mayTellB b2 ?_)
    rw [hB.2.2.2.2.2.1]
    exact A _ _ b2
  refine ⟨A, B, fun w y hB => ?_⟩
  have b2 := hB.st (a := 71) (k := aNp (dH D)) (v := y) (by decide)
  refine bX10_readPerson_27 hB.1 _ rfl h6 (tX10_mayTellB b2 ?_)
  rw [hB.2.2.2.2.2.1]
  exact B _ _ b2
theorem MBd.np {e : Nat × Nat} {D' : DS} (hB : MBd t e D' w0 w) (h1 : aNp (dH D') = aNp (dH D)) (h2 : aNm (dH D') = aNm (dH D)) (h3 : aNb (dH D') = aNb (dH D)) : MBd t e D w0 w := by
  unfold MBd at hB ⊢
  rw [h1, h2, h3] at hB
  exact hB
theorem tX10_readPerson (hS : MS0 T n w0) (hD : WD D) (h6 : aNp (dH D) < 6) (hG : MG t T n p D w0 w) (hc : tC T n p ≠ 1) (k1 : ∀ q D', pPer0 T n D p = .inr (q, D') → ∀ w', MG t T n q D' w0 w' → Q none w') (k0 : ∀ e, pPer0 T n D p = .inl e → ∀ w', MBd t e D w0 w' → Q none w') : px_Call E (d + 6) 0 0 mX10_readPerson [.ref 61] w Q := by
  have P0 : pPer0 T n D p = _ := rfl
  refine eX10_readPerson hG.1 ?_
  refine tX10_new (f := dP D) (k := aNp (dH D)) (off := 0) (D' := dNP D (tW T n (tE T n p))) rfl hG.2.2.2.2.2.2.1.1.1 (by omega) (hD.2.1.1.lo hD.2.1.2.1) (fun w' hX i hi => by rw [Nat.zero_add]; exact hX.2.1.1 i (by have := hD.2.1.2.1; omega)) hS hG hc (fun w' hX h9 => ?_) (fun q2 h2 w2 g2 a2 => ?_) (fun e he w2 b2 _ => ?_)
  · obtain ⟨⟨g1, g2, g3, g4, g5⟩, gn, go, gf⟩ := hX
    refine ⟨⟨g1, g2, g3, g4, g5⟩, ⟨fun i hi => ?_, fun i hi => ?_⟩, go, gf⟩
    · have hi : i < aNp (dH D) + 1 := hi
      show _ = Int64.ofNat (e256 (uN (dP D) (aNp (dH D)) (tW T n (tE T n p)) i))
      rw [pw_L_sL, Nat.zero_add]
      by_cases e : i = aNp (dH D)
      · rw [if_pos ⟨rfl, e⟩, e, uN_s]; exact h9
      · rw [if_neg (fun z => e z.2), uN_o e]; exact gn.1 i (by have := hD.2.1.2.1; omega)
    · rw [pw_L_sL, if_neg (by omega)]; exact gn.2 i hi
  · obtain ⟨c3, c4, -⟩ := pNew_r h2
    have P1 := P0.trans (pB_r h2)
    have N : ∀ {w9 : pw_W} {q : Nat}, MG t T n q (dNP D (tW T n (tE T n p))) w0 w9 → pw_I w9 61 45 = nI (aNp (dH D)) := fun g => g.2.2.2.2.2.2.1.1.1
    have ST : ∀ {w9 : pw_W} {q a : Nat} {v : Int32}, MG t T n q (dNP D (tW T n (tE T n p))) w0 w9 → a ∈ [71, 72, 73] → MG t T n q (dNP D (tW T n (tE T n p))) w0 (pw_sI w9 a (aNp (dH D)) v) := fun {w9 q a v} g h => by
      have hr : 71 ≤ a ∧ a ≤ 73 := by simp at h; omega
      exact g.st (by simp at h ⊢; omega) (fun _ => Nat.le_refl _) (fun z => by omega) (fun z => by omega) (fun z => by omega)
    refine bX10_readPerson_9 g2.1 (tX10_told (x := 1) (lo := 0) (hi := 30) (by decide) (by decide) rfl rfl (by decide) (by decide) hS g2 (fun q3 f h3 w3 g3 a3 => ?_) (fun e he a w3 b3 _ => ?_))
    · rw [N g2]
      have P2 := P1.trans (pB_r h3)
      have g4 := ST (v := nI f) g3 (a := 71) (by decide)
      refine bX10_readPerson_27 g3.1 _ rfl h6 (tX10_mayTell (x := 2) (hi := 9) (by decide) (by decide) rfl (by decide) hS g4 (fun q5 l h5 w5 g5 a5 => ?_) (fun e he a w5 b5 _ => ?_))
      · rw [N g3]
        have P3 := P2.trans (pB_r h5)
        have g6 := ST (v := nI l) g5 (a := 72) (by decide)
        refine bX10_readPerson_45 g5.1 _ rfl h6 (tX10_mayTell (x := 3) (hi := 99) (by decide) (by decide) rfl (by decide) hS g6 (fun q7 u h7 w7 g7 a7 => ?_) (fun e he a w7 b7 _ => ?_))
        · rw [N g5]
          have P4 := P3.trans (pB_r h7)
          have g8 := ST (v := nI u) g7 (a := 73) (by decide)
          refine bX10_readPerson_63 g7.1 _ rfl h6 (fun z => absurd g7.2.2.2.2.1 z) (fun _ => ?_)
          rw [N g7, ← nI_succ]
          have a9 : agF [] [45] (pw_sI w7 73 (aNp (dH D)) (nI u)) (pw_sI (pw_sI w7 73 (aNp (dH D)) (nI u)) 61 45 (nI (aNp (dH D) + 1))) := agF.sI (by decide)
          have g9 : MG t T n q7 (dPer D (tW T n (tE T n p)) f l u) w0 (pw_sI (pw_sI w7 73 (aNp (dH D)) (nI u)) 61 45 (nI (aNp (dH D) + 1))) := by
            refine ⟨hI g8.1, g8.2.1.tr (agF.sI (by decide)), g8.2.2.1, g8.2.2.2.1.agF a9 List.not_mem_nil (by decide), (a9.F List.not_mem_nil (by decide)).trans g8.2.2.2.2.1, (a9.F List.not_mem_nil (by decide)).trans g8.2.2.2.2.2.1, MD.addP g8.2.2.2.2.2.2 ?_ ?_ pw_same⟩
            · rw [pw_oth (by omega), a7.I List.not_mem_nil (by decide), pw_oth (by omega), a5.I List.not_mem_nil (by decide), pw_same]
            · rw [pw_oth (by omega), a7.I List.not_mem_nil (by decide), pw_same]
          exact bX10_readPerson_81 g9.1 (k1 _ _ P4 _ g9)
        · rw [N g5]
          exact (mPerB h6 (fun w' b' => k0 e (P3.trans (pB_l he)) w' b')).1 w7 a (b7.np rfl rfl rfl)
      · rw [N g3]
        exact (mPerB h6 (fun w' b' => k0 e (P2.trans (pB_l he)) w' b')).2.1 w5 a (b5.np rfl rfl rfl)
    · rw [N g2]
      exact (mPerB h6 (fun w' b' => k0 e (P1.trans (pB_l he)) w' b')).2.2 w3 a (b3.np rfl rfl rfl)
  · have K := mPerB (E := E) (d := d) h6 (fun w' b' => k0 e (P0.trans (pB_l he)) w' b')
    refine bX10_readPerson_9 b2.1 (tX10_toldB b2 ?_)
    rw [b2.2.2.2.2.2.1]
    exact K.2.2 w2 0 b2
end MPA
