/-! the reference reads a line -/
section MLN
variable {E : px_E} {d : Nat} {w w0 : pw_W} {Q : Option Value → pw_W → Prop} {t : ct_T} {T : Nat → Nat} {n p : Nat} {D : DS}
theorem bit_same {x a : Nat} : (x ||| 2 ^ a).testBit a = true := by
  rw [Nat.testBit_or, Nat.testBit_two_pow_self, Bool.or_true]
theorem MG.once {x : Nat} (hx : x = 9 ∨ x = 10 ∨ x = 11) (hG : MG t T n p D w0 w) : MG t T n p (dBit D x) w0 (pw_sI w 61 (x + 48) 1) := by
  obtain ⟨hw, hA, hp, hk, f2, f3, ⟨g1, g2, g3, g4, g5⟩, gn, go, gf⟩ := hG
  have ha : agF [] [57, 58, 59] w (pw_sI w 61 (x + 48) 1) := agF.sI (by simp; omega)
  have fo : ∀ b, b ≠ x + 48 → pw_I (pw_sI w 61 (x + 48) 1) 61 b = pw_I w 61 b := fun b hb => pw_oth (fun _ z => hb z)
  have bo : ∀ b, b ≠ x → ((dO D ||| 2 ^ x).testBit b) = (dO D).testBit b := fun b hb => bit_oth (fun z => hb z.symm)
  have f : ∀ b, b ∈ [9, 10, 11] → pw_I w 61 (b + 48) = jb ((dO D).testBit b = true) → pw_I (pw_sI w 61 (x + 48) 1) 61 (b + 48) = jb ((dO D ||| 2 ^ x).testBit b = true) := fun b _ h => by
    by_cases e : b = x
    · subst e; rw [pw_same, jb_t bit_same]
    · rw [fo _ (by omega), bo b e]; exact h
  refine ⟨hI hw, hA.tr (ha.mono (fun a h => absurd h List.not_mem_nil) (by decide)), hp, hk.agF ha List.not_mem_nil (by decide), ?_, ?_, ⟨?_, g2, g3, g4, g5⟩, gn, ⟨?_, f 9 (by decide) go.2.1, f 10 (by decide) go.2.2.1, f 11 (by decide) go.2.2.2⟩, fun z => gf.1 ?_, fun z => ?_⟩
  · rw [fo 2 (by omega)]; exact f2
  · rw [fo 3 (by omega)]; exact f3
  · rw [fo 45 (by omega), fo 46 (by omega), fo 47 (by omega), fo 48 (by omega), fo 49 (by omega), fo 50 (by omega), fo 20 (by omega)]; exact g1
  · rw [fo 24 (by omega)]
    show _ = jb ((dO D ||| 2 ^ x).testBit 3 = true)
    rw [bo 3 (by omega)]; exact go.1
  · have z : (dO D ||| 2 ^ x).testBit 3 = false := z
    rw [bo 3 (by omega)] at z; exact z
  · have z : (dO D ||| 2 ^ x).testBit 3 = true := z
    rw [bo 3 (by omega)] at z
    exact ⟨(fo 17 (by omega)).trans (gf.2 z).1, (gf.2 z).2⟩
theorem MG.val {x a : Nat} (hx : x = 9 ∨ x = 10 ∨ x = 11) (hG : MG t T n p (dBit D x) w0 w) : MG t T n p (dSet D x a) w0 (pw_sI w 61 (x + 39) (nI a)) := by
  obtain ⟨hw, hA, hp, hk, f2, f3, ⟨g1, g2, g3, g4, g5⟩, gn, go, gf⟩ := hG
  have ha : agF [] [48, 49, 50] w (pw_sI w 61 (x + 39) (nI a)) := agF.sI (by simp; omega)
  have fo : ∀ b, b ≠ x + 39 → pw_I (pw_sI w 61 (x + 39) (nI a)) 61 b = pw_I w 61 b := fun b hb => pw_oth (fun _ z => hb z)
  have n1 : aNp (dH (dSet D x a)) = aNp (dH D) := by rcases hx with e | e | e <;> subst e <;> rfl
  have n2 : aNm (dH (dSet D x a)) = aNm (dH D) := by rcases hx with e | e | e <;> subst e <;> rfl
  have n3 : aNb (dH (dSet D x a)) = aNb (dH D) := by rcases hx with e | e | e <;> subst e <;> rfl
  refine ⟨hI hw, hA.tr (ha.mono (fun a h => absurd h List.not_mem_nil) (by decide)), hp, hk.agF ha List.not_mem_nil (by decide), ?_, ?_, ⟨⟨?_, ?_, ?_, ?_, ?_, ?_, ?_⟩, fun i hi => g2 i (by rw [n1] at hi; exact hi), fun i hi => g3 i (by rw [n2] at hi; exact hi), fun i hi => g4 i (by rw [n3] at hi; exact hi), fun i hi => g5 i (by rw [n3] at hi; exact hi)⟩, gn, ?_, gf.1, fun z => ⟨(fo 17 (by omega)).trans (gf.2 z).1, (gf.2 z).2⟩⟩
  · rw [fo 2 (by omega)]; exact f2
  · rw [fo 3 (by omega)]; exact f3
  · rw [fo 45 (by omega)]; refine g1.1.trans ?_; rcases hx with e | e | e <;> subst e <;> rfl
  · rw [fo 46 (by omega)]; refine g1.2.1.trans ?_; rcases hx with e | e | e <;> subst e <;> rfl
  · rw [fo 47 (by omega)]; refine g1.2.2.1.trans ?_; rcases hx with e | e | e <;> subst e <;> rfl
  · rcases hx with e | e | e <;> subst e
    · rw [pw_same]; rfl
    · rw [fo 48 (by decide)]; exact g1.2.2.2.1
    · rw [fo 48 (by decide)]; exact g1.2.2.2.1
  · rcases hx with e | e | e <;> subst e
    · rw [fo 49 (by decide)]; exact g1.2.2.2.2.1
    · rw [pw_same]; rfl
    · rw [fo 49 (by decide)]; exact g1.2.2.2.2.1
  · rcases hx with e | e | e <;> subst e
    · rw [fo 50 (by decide)]; exact g1.2.2.2.2.2.1
    · rw [fo 50 (by decide)]; exact g1.2.2.2.2.2.1
    · rw [pw_same]; rfl
  · rw [fo 20 (by omega)]; refine g1.2.2.2.2.2.2.trans ?_; rcases hx with e | e | e <;> subst e <;> rfl
  · unfold MDo; rw [fo 24 (by omega), fo 57 (by omega), fo 58 (by omega), fo 59 (by omega)]; exact go
theorem mLnB {e : Nat × Nat} (hB : MBd t e D w0 w) (k : Q none w) : px_W E mX10_readLine (d + 7) 0 0 224 [.ref 61] [] w Q :=
  bX10_readLine_224 hB.1 (fun _ => bX10_readLine_245 hB.1 (fun _ => bX10_readLine_256 hB.1 k) (fun z => absurd z hB.gt.2)) (fun z => absurd z hB.gt.2) (fun z => absurd z hB.gt.2)
theorem mLnE (hS : MS0 T n w0) (hG : MG t T n p D w0 w) (k1 : ∀ q, pEn T n p = .inr q → ∀ w', MG t T n q D w0 w' → Q none w') (k0 : ∀ e, pEn T n p = .inl e → ∀ w', MBd t e D w0 w' → Q none w') : px_W E mX10_readLine (d + 7) 0 0 224 [.ref 61] [] w Q := by
  have f2 := hG.2.2.2.2.1
  have s59 : pw_I w 61 6 = 59 ↔ tC T n p = 5 ∧ tV T n p = 59 := by rw [hG.2.2.2.1.2.2.1]; exact mS_5 (x := 59) (by decide)
  refine bX10_readLine_224 hG.1 (fun z => absurd f2 z) (fun _ z => ?_) (fun _ z => ?_) <;> rw [s59] at z
  · exact bX10_readLine_245 hG.1 (fun y => absurd f2 y) (fun _ => tX10_tok hS hG (by omega) (fun w' g' _ => bX10_readLine_256 g'.1 (k1 _ (if_pos z) w' g')))
  · exact tX10_wrongG (x := 2) rfl (by decide) hG hS.1 (fun w' b' _ => bX10_readLine_245 b'.1 (fun _ => bX10_readLine_256 b'.1 (k0 _ (if_neg z) w' b')) (fun y => absurd y b'.gt.2))
theorem mLn0 (hS : MS0 T n w0) (hG : MG t T n p D w0 w) (k : ∀ w', MBd t (rfu T n p) D w0 w' → Q none w') : px_W E mX10_readLine (d + 7) 0 0 219 [.ref 61] [] w Q :=
  bX10_readLine_219 hG.1 (tX10_wrongG (x := 2) rfl (by decide) hG hS.1 (fun w' b' _ => mLnB b' (k w' b')))
theorem mLnS {x lo hi : Nat} (hx : x = 9 ∨ x = 10 ∨ x = 11) (hS : MS0 T n w0) (hb : (dO D).testBit x = false) {w1 : pw_W} {v : Int64} {vl vh : Int32} (hv : v = Int64.ofNat (e256 (kwS.getD x []))) (hvl : vl = nI lo) (hvh : vh = nI hi) (hlo : lo < 10000) (hhi : hi < 10000) {pc : Nat} (hpc : ∀ w y, w.1 = cs t → px_W E mX10_readLine (d + 7) 0 0 224 [.ref 61] [] (pw_sI w 61 (x + 39) y) Q → px_W E mX10_readLine (d + 7) 0 0 pc [.ref 61] [.int y, .ref 61] w Q) (hG : MG t T n p D w0 w1) (k1 : ∀ q D', pStt T n D x lo hi p = .inr (q, D') → ∀ w', MG t T n q D' w0 w' → Q none w') (k0 : ∀ e, pStt T n D x lo hi p = .inl e → ∀ w', MBd t e D w0 w' → Q none w') : px_Call E (d + 6) 0 0 mX10_told [.ref 61, .long v, .int vl, .int vh] (pw_sI w1 61 (x + 48) 1) (fun v w' => px_W E mX10_readLine (d + 7) 0 0 pc [.ref 61] (v.toList ++ [.ref 61]) w' Q) := by
  have P : pStt T n D x lo hi p = pB (pB (pNb T n x lo hi p) (fun a => pB (pEn T n a.1) (fun z => .inr (z, a.2)))) (fun a => .inr (a.1, dSet D x a.2)) := by
    unfold pStt pSet
    rw [if_neg (by rw [hb]; decide)]
  refine tX10_told hv (by omega) hvl hvh hlo hhi hS (hG.once hx) (fun q a h w2 g2 _ => ?_) (fun e he a w2 b2 _ => ?_)
  · refine hpc w2 _ g2.1 (mLnE hS (g2.val hx) (fun q3 h3 w3 g3 => k1 q3 _ ?_ w3 g3) (fun e he w3 b3 => k0 e ?_ w3 (b3.np ?_ ?_ ?_)))
    · rw [P, h, pB_R]; simp only []; rw [h3, pB_R, pB_R]
    · rw [P, h, pB_R]; simp only []; rw [he, pB_L, pB_L]
    · rcases hx with e | e | e <;> subst e <;> rfl
    · rcases hx with e | e | e <;> subst e <;> rfl
    · rcases hx with e | e | e <;> subst e <;> rfl
  · have a9 : agF [] [48, 49, 50] w2 (pw_sI w2 61 (x + 39) a) := agF.sI (by simp; omega)
    have b3 := b2.agF a9 List.not_mem_nil (fun a h => absurd h List.not_mem_nil) (by decide) (by decide)
    refine hpc w2 _ b2.1 (mLnB b3 (k0 e ?_ _ (b3.np rfl rfl rfl)))
    rw [P, he, pB_L, pB_L]
end MLN
