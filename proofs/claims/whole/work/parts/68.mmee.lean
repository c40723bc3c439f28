/-! the reference reads a meeting, a BROTHER -/
def pMee0 (T : Nat → Nat) (n : Nat) (D : DS) (p : Nat) : PR (Nat × DS) := pB (pOld T n (dP D) (aNp (dH D)) 0 (tE T n p)) (fun a => pB (pOld T n (dP D) (aNp (dH D)) (2 ^ a.2) a.1) (fun b => pB (pNb T n 5 0 6 b.1) (fun c => .inr (c.1, dMee D a.2 b.2 c.2))))
theorem pB_L {α β : Type} {f : α → PR β} {e : Nat × Nat} : pB (Sum.inl e : PR α) f = .inl e := rfl
theorem pB_R {α β : Type} {f : α → PR β} {a : α} : pB (Sum.inr a : PR α) f = f a := rfl
section PME
variable {T : Nat → Nat} {n p q r a b k : Nat} {D : DS} {e : Nat × Nat}
theorem pMee0_1e (h : pOld T n (dP D) (aNp (dH D)) 0 (tE T n p) = .inl e) : pMee0 T n D p = .inl e := by unfold pMee0; rw [h, pB_L]
theorem pMee0_2e (h : pOld T n (dP D) (aNp (dH D)) 0 (tE T n p) = .inr (q, a)) (h2 : pOld T n (dP D) (aNp (dH D)) (2 ^ a) q = .inl e) : pMee0 T n D p = .inl e := by
  unfold pMee0
  rw [h, pB_R]
  simp only []
  rw [h2, pB_L]
theorem pMee0_3e (h : pOld T n (dP D) (aNp (dH D)) 0 (tE T n p) = .inr (q, a)) (h2 : pOld T n (dP D) (aNp (dH D)) (2 ^ a) q = .inr (r, b)) (h3 : pNb T n 5 0 6 r = .inl e) : pMee0 T n D p = .inl e := by
  unfold pMee0
  rw [h, pB_R]
  simp only []
  rw [h2, pB_R]
  simp only []
  rw [h3, pB_L]
theorem pMee0_3 {z : Nat} (h : pOld T n (dP D) (aNp (dH D)) 0 (tE T n p) = .inr (q, a)) (h2 : pOld T n (dP D) (aNp (dH D)) (2 ^ a) q = .inr (r, b)) (h3 : pNb T n 5 0 6 r = .inr (z, k)) : pMee0 T n D p = .inr (z, dMee D a b k) := by
  unfold pMee0
  rw [h, pB_R]
  simp only []
  rw [h2, pB_R]
  simp only []
  rw [h3, pB_R]
end PME
theorem pMee_eq {T : Nat → Nat} {n p : Nat} {D : DS} (h : aNm (dH D) < 9) : pMee T n D p = pFin T n (pMee0 T n D p) := by
  unfold pMee pFin pMee0
  rw [if_pos h, pB_as]
  congr 1; funext a
  rw [pB_as]
  congr 1; funext b
  rw [pB_as]
  rfl
theorem MD.addM {D : DS} {w : pw_W} {a b k : Nat} (h : MD D w) (h1 : pw_I w 74 (aNm (dH D)) = nI a) (h2 : pw_I w 75 (aNm (dH D)) = nI b) (h3 : pw_I w 76 (aNm (dH D)) = nI k) : MD (dMee D a b k) (pw_sI w 61 46 (nI (aNm (dH D) + 1))) := by
  obtain ⟨⟨g1, g2, g3, g4, g5⟩, gn, go, gf⟩ := h
  refine ⟨⟨⟨?_, pw_same, ?_, ?_, ?_, ?_, ?_⟩, g2, fun i hi => ?_, g4, g5⟩, gn, ?_, gf.1, fun z => ⟨?_, (gf.2 z).2⟩⟩
  · rw [pw_oth (by omega)]; exact g1.1
  · rw [pw_oth (by omega)]; exact g1.2.2.1
  · rw [pw_oth (by omega)]; exact g1.2.2.2.1
  · rw [pw_oth (by omega)]; exact g1.2.2.2.2.1
  · rw [pw_oth (by omega)]; exact g1.2.2.2.2.2.1
  · rw [pw_oth (by omega)]; exact g1.2.2.2.2.2.2
  · have hi : i < aNm (dH D) + 1 := hi
    rw [pw_oth (by omega), pw_oth (by omega), pw_oth (by omega)]
    show pw_I w 74 i = nI (uN (aFi (dH D)) (aNm (dH D)) a i) ∧ pw_I w 75 i = nI (uN (aSe (dH D)) (aNm (dH D)) b i) ∧ pw_I w 76 i = nI (uN (aWk (dH D)) (aNm (dH D)) k i)
    by_cases e : i = aNm (dH D)
    · rw [e, uN_s, uN_s, uN_s]; exact ⟨h1, h2, h3⟩
    · rw [uN_o e, uN_o e, uN_o e]; exact g3 i (by omega)
  · unfold MDo
    rw [pw_oth (by omega), pw_oth (by omega), pw_oth (by omega), pw_oth (by omega)]
    exact go
  · rw [pw_oth (by omega)]; exact (gf.2 z).1
section MPA
variable {E : px_E} {d : Nat} {w w0 : pw_W} {Q : Option Value → pw_W → Prop} {t : ct_T} {T : Nat → Nat} {n p : Nat} {D : DS}
theorem mMeeB {e : Nat × Nat} (h9 : aNm (dH D) < 9) (k : ∀ w', MBd t e D w0 w' → Q none w') :
    (∀ w y, MBd t e D w0 w → px_W E mX10_readMeeting (d + 5) 0 0 103 [.ref 61] [.int y, .int (nI (aNm (dH D))), .ref 76] w Q) ∧
    (∀ w, MBd t e D w0 w → px_W E mX10_readMeeting (d + 5) 0 0 74 [.ref 61] [] w Q) ∧
    (∀ w y, MBd t e D w0 w → px_W E mX10_readMeeting (d + 5) 0 0 40 [.ref 61] [.int y, .int (nI (aNm (dH D))), .ref 75] w Q) ∧
    (∀ w y, MBd t e D w0 w → px_W E mX10_readMeeting (d + 5) 0 0 16 [.ref 61] [.int y, .int (nI (aNm (dH D))), .ref 74] w Q) := by
  have A : ∀ w y, MBd t e D w0 w → px_W E mX10_readMeeting (d + 5) 0 0 103 [.ref 61] [.int y, .int (nI (aNm (dH D))), .ref 76] w Q := fun w y hB => by
    have b2 := hB.st (a := 76) (k := aNm (dH D)) (v := y) (by decide)
    exact bX10_readMeeting_103 hB.1 _ rfl h9 (fun _ => bX10_readMeeting_121 b2.1 (k _ b2)) (fun z => absurd z hB.gt.2)
  have B : ∀ w, MBd t e D w0 w → px_W E mX10_readMeeting (d + 5) 0 0 74 [.ref 61] [] w Q := fun w hB => by
    refine bX10_readMeeting_74 hB.1 (fun _ => bX10_readMeeting_85 hB.1 (tX10_toldB hB ?_)) (fun z => absurd z hB.gt.2)
    rw [hB.2.2.2.2.2.2.1]
    exact A w _ hB
  have C : ∀ w y, MBd t e D w0 w → px_W E mX10_readMeeting (d + 5) 0 0 40 [.ref 61] [.int y, .int (nI (aNm (dH D))), .ref 75] w Q := fun w y hB => by
    have b2 := hB.st (a := 75) (k := aNm (dH D)) (v := y) (by decide)
    exact bX10_readMeeting_40 hB.1 _ rfl h9 (fun _ => B _ b2) (fun z => absurd z hB.gt.2)
  refine ⟨A, B, C, fun w y hB => ?_⟩
  have b2 := hB.st (a := 74) (k := aNm (dH D)) (v := y) (by decide)
  refine bX10_readMeeting_16 hB.1 _ rfl h9 (fun _ => bX10_readMeeting_28 b2.1 (tX10_oldPersonB b2 ?_)) (fun z => absurd z hB.gt.2)
  rw [b2.2.2.2.2.2.2.1]
  exact C _ _ b2
theorem tX10_readMeeting (hS : MS0 T n w0) (hD : WD D) (h9 : aNm (dH D) < 9) (hG : MG t T n p D w0 w) (hc : tC T n p ≠ 1) (k1 : ∀ q D', pMee0 T n D p = .inr (q, D') → ∀ w', MG t T n q D' w0 w' → Q none w') (k0 : ∀ e, pMee0 T n D p = .inl e → ∀ w', MBd t e D w0 w' → Q none w') : px_Call E (d + 5) 0 0 mX10_readMeeting [.ref 61] w Q := by
  have n6 := hD.1.1
  have N : ∀ {w9 : pw_W} {q : Nat}, MG t T n q D w0 w9 → pw_I w9 61 46 = nI (aNm (dH D)) := fun g => g.2.2.2.2.2.2.1.1.2.1
  have ST : ∀ {w9 : pw_W} {q a : Nat} {v : Int32}, MG t T n q D w0 w9 → a ∈ [74, 75, 76] → MG t T n q D w0 (pw_sI w9 a (aNm (dH D)) v) := fun {w9 q a v} g h => by
    have hr : 74 ≤ a ∧ a ≤ 76 := by simp at h; omega
    exact g.st (by simp at h ⊢; omega) (fun z => by omega) (fun _ => Nat.le_refl _) (fun z => by omega) (fun z => by omega)
  refine eX10_readMeeting hG.1 (tX10_tok hS hG hc (fun w1 g1 _ => bX10_readMeeting_4 g1.1 (tX10_oldPerson hD hS g1 (fun a ha => ?_) (fun e he w2 b2 _ => ?_))))
  · obtain ⟨c3, la⟩ := pOw_r ha
    have A1 : pOld T n (dP D) (aNp (dH D)) 0 (tE T n p) = .inr (tE T n (tE T n p), a) := pOld_eq.trans ((pB_r ha).trans (if_neg (by rw [Nat.zero_testBit]; decide)))
    rw [N g1]
    have g2 := ST (v := nI a) g1 (a := 74) (by decide)
    refine bX10_readMeeting_16 g1.1 _ rfl h9 (fun z => absurd g1.2.2.2.2.1 z) (fun _ => tX10_tok hS g2 (by omega) (fun w3 g3 a3 => ?_))
    refine bX10_readMeeting_28 g3.1 (tX10_oldPerson hD hS g3 (fun b hb => ?_) (fun e he w4 b4 _ => ?_))
    · obtain ⟨c4, lb⟩ := pOw_r hb
      rw [N g3]
      have g4 := ST (v := nI b) g3 (a := 75) (by decide)
      have v74 : pw_I (pw_sI w3 75 (aNm (dH D)) (nI b)) 74 (aNm (dH D)) = nI a := by
        rw [pw_oth (by omega), a3.I List.not_mem_nil (by decide), pw_same]
      refine bX10_readMeeting_40 g3.1 _ rfl h9 (fun z => absurd g3.2.2.2.2.1 z) (fun _ => ?_)
      refine bX10_readMeeting_48 g4.1 (aNm (dH D)) (N g4) h9 (fun z => ?_) (fun z => ?_) <;> rw [v74, pw_same] at z
      · have ab : a ≠ b := fun e => z (by rw [e])
        have A2 : pOld T n (dP D) (aNp (dH D)) (2 ^ a) (tE T n (tE T n p)) = .inr (tE T n (tE T n (tE T n p)), b) := pOld_eq.trans ((pB_r hb).trans (if_neg (by rw [Nat.testBit_two_pow_of_ne ab]; decide)))
        refine bX10_readMeeting_74 g4.1 (fun z => absurd g4.2.2.2.2.1 z) (fun _ => tX10_tok hS g4 (by omega) (fun w5 g5 a5 => ?_))
        refine bX10_readMeeting_85 g5.1 (tX10_told (x := 5) (lo := 0) (hi := 6) (by decide) (by decide) rfl rfl (by decide) (by decide) hS g5 (fun q6 k h6 w6 g6 a6 => ?_) (fun e he y w6 b6 _ => ?_))
        · rw [N g5]
          have P3 := pMee0_3 A1 A2 h6
          have g7 := ST (v := nI k) g6 (a := 76) (by decide)
          refine bX10_readMeeting_103 g6.1 _ rfl h9 (fun z => absurd g6.2.2.2.2.1 z) (fun _ => ?_)
          rw [N g6, ← nI_succ]
          have a9 : agF [] [46] (pw_sI w6 76 (aNm (dH D)) (nI k)) (pw_sI (pw_sI w6 76 (aNm (dH D)) (nI k)) 61 46 (nI (aNm (dH D) + 1))) := agF.sI (by decide)
          have g9 : MG t T n q6 (dMee D a b k) w0 (pw_sI (pw_sI w6 76 (aNm (dH D)) (nI k)) 61 46 (nI (aNm (dH D) + 1))) := by
            refine ⟨hI g7.1, g7.2.1.tr (agF.sI (by decide)), g7.2.2.1, g7.2.2.2.1.agF a9 List.not_mem_nil (by decide), (a9.F List.not_mem_nil (by decide)).trans g7.2.2.2.2.1, (a9.F List.not_mem_nil (by decide)).trans g7.2.2.2.2.2.1, MD.addM g7.2.2.2.2.2.2 ?_ ?_ pw_same⟩
            · rw [pw_oth (by omega), a6.I List.not_mem_nil (by decide), a5.I List.not_mem_nil (by decide)]; exact v74
            · rw [pw_oth (by omega), a6.I List.not_mem_nil (by decide), a5.I List.not_mem_nil (by decide), pw_same]
          exact bX10_readMeeting_121 g9.1 (k1 _ _ P3 _ g9)
        · rw [N g5]
          exact (mMeeB h9 (k0 e (pMee0_3e A1 A2 he))).1 w6 y b6
      · have ab : a = b := za_eq (by omega) (by omega) z
        have A2 : pOld T n (dP D) (aNp (dH D)) (2 ^ a) (tE T n (tE T n p)) = .inl (3, tQ T n (tE T n (tE T n p))) := pOld_eq.trans ((pB_r hb).trans (if_pos (by rw [ab, Nat.testBit_two_pow_self])))
        have P1e := pMee0_2e A1 A2
        refine tX10_wrongG (x := 3) rfl (by decide) g4 hS.1 (fun w' b' _ => (mMeeB h9 (k0 _ P1e)).2.1 w' ?_)
        rw [if_neg (by omega)] at b'
        exact b'
    · rw [N g3]
      have A2 : pOld T n (dP D) (aNp (dH D)) (2 ^ a) (tE T n (tE T n p)) = .inl e := pOld_eq.trans (pB_l he)
      have P1e := pMee0_2e A1 A2
      exact (mMeeB h9 (k0 e P1e)).2.2.1 w4 _ b4
  · rw [N g1]
    have A1 : pOld T n (dP D) (aNp (dH D)) 0 (tE T n p) = .inl e := pOld_eq.trans (pB_l he)
    have P0e := pMee0_1e A1
    exact (mMeeB h9 (k0 e P0e)).2.2.2 w2 _ b2
end MPA
