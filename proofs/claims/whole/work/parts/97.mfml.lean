/-! the reference reads a formula -/
section MRU
variable {E : px_E} {d : Nat} {w w0 : pw_W} {Q : Option Value → pw_W → Prop} {t : ct_T} {T : Nat → Nat} {n p : Nat} {D : DS}
theorem bit3_set {x : Nat} : (x ||| 2 ^ 3).testBit 3 = true := by
  rw [Nat.testBit_or, Nat.testBit_two_pow_self, Bool.or_true]
theorem bit_oth {x a b : Nat} (h : a ≠ b) : (x ||| 2 ^ a).testBit b = x.testBit b := by
  rw [Nat.testBit_or, Nat.testBit_two_pow_of_ne h, Bool.or_false]
theorem MG.form0 {w' : pw_W} (hG : MG t T n p D w0 w) (hU : aUn (dH D) = 0) (hA : agF [] [17, 19, 22, 23, 24] w w') (h24 : pw_I w' 61 24 = 1) (h17 : pw_I w' 61 17 = 0) : MG t T n p (dFm (dBit D 3) 0 []) w0 w' := by
  obtain ⟨hw, hA0, hp, hk, f2, f3, ⟨g1, g2, g3, g4, g5⟩, gn, go, gf⟩ := hG
  have fo : ∀ b, b ∉ [17, 19, 22, 23, 24] → pw_I w' 61 b = pw_I w 61 b := fun b hb => hA.F List.not_mem_nil hb
  have co : ∀ a, a ≠ 61 → ∀ b, pw_I w' a b = pw_I w a b := fun a q b => hA.I List.not_mem_nil q b
  have cl : ∀ a, a ≠ 61 → ∀ b, pw_L w' a b = pw_L w a b := fun a q b => (hA.2 a b List.not_mem_nil (fun e => absurd e q)).2
  refine ⟨hA.1.trans hw, hA0.tr (hA.mono (fun a h => absurd h List.not_mem_nil) (by decide)), hp, hk.agF hA List.not_mem_nil (by decide), ?_, ?_, ⟨⟨?_, ?_, ?_, ?_, ?_, ?_, ?_⟩, fun i hi => ?_, fun i hi => ?_, fun b hb => ?_, fun b hb j hj => ?_⟩, ⟨fun i hi => ?_, fun i hi => ?_⟩, ⟨?_, ?_, ?_, ?_⟩, fun z => ?_, fun _ => ⟨?_, fun i hi => absurd hi (Nat.not_lt_zero i)⟩⟩
  · rw [fo 2 (by decide)]; exact f2
  · rw [fo 3 (by decide)]; exact f3
  · rw [fo 45 (by decide)]; exact g1.1
  · rw [fo 46 (by decide)]; exact g1.2.1
  · rw [fo 47 (by decide)]; exact g1.2.2.1
  · rw [fo 48 (by decide)]; exact g1.2.2.2.1
  · rw [fo 49 (by decide)]; exact g1.2.2.2.2.1
  · rw [fo 50 (by decide)]; exact g1.2.2.2.2.2.1
  · rw [fo 20 (by decide), g1.2.2.2.2.2.2, hU]; rfl
  · rw [co 71 (by decide), co 72 (by decide), co 73 (by decide)]; exact g2 i hi
  · rw [co 74 (by decide), co 75 (by decide), co 76 (by decide)]; exact g3 i hi
  · rw [co 77 (by decide), co 79 (by decide)]; exact g4 b hb
  · rw [co 78 (by decide)]; exact g5 b hb j hj
  · rw [cl 63 (by decide)]; exact gn.1 i hi
  · rw [cl 63 (by decide)]; exact gn.2 i hi
  · rw [h24]; exact (jb_t bit3_set).symm
  · rw [fo 57 (by decide), go.2.1]
    show jb ((dO D).testBit 9 = true) = jb ((dO D ||| 2 ^ 3).testBit 9 = true)
    rw [bit_oth (by decide)]
  · rw [fo 58 (by decide), go.2.2.1]
    show jb ((dO D).testBit 10 = true) = jb ((dO D ||| 2 ^ 3).testBit 10 = true)
    rw [bit_oth (by decide)]
  · rw [fo 59 (by decide), go.2.2.2]
    show jb ((dO D).testBit 11 = true) = jb ((dO D ||| 2 ^ 3).testBit 11 = true)
    rw [bit_oth (by decide)]
  · have z : (dO D ||| 2 ^ 3).testBit 3 = false := z
    rw [bit3_set] at z; cases z
  · rw [h17]; rfl
theorem tX10_formula (hS : MS0 T n w0) (hU : aUn (dH D) = 0) (hG : MG t T n p D w0 w) (hc : tC T n p ≠ 1) (k1 : ∀ q D', pFml0 T n D p = .inr (q, D') → ∀ w', MG t T n q D' w0 w' → Q none w') (k0 : ∀ e, pFml0 T n D p = .inl e → ∀ w', MBd t e D w0 w' → Q none w') : px_Call E (d + 5) 0 0 mX10_formula [.ref 61] w Q := by
  refine eX10_formula hG.1 (tX10_tok hS hG hc (fun w1 g1 a1 => bX10_formula_4 g1.1 ?_))
  obtain ⟨w2, e2⟩ : ∃ w2, w2 = pw_sI (pw_sI (pw_sI (pw_sI (pw_sI w1 61 24 1) 61 17 0) 61 19 0) 61 23 0) 61 22 0 := ⟨_, rfl⟩
  rw [← e2]
  have a2 : agF [] [17, 19, 22, 23, 24] w1 w2 := by rw [e2]; exact (agF.sI (by decide)).tr ((agF.sI (by decide)).tr ((agF.sI (by decide)).tr ((agF.sI (by decide)).tr (agF.sI (by decide)))))
  have g2 : MG t T n (tE T n p) (dFm (dBit D 3) 0 []) w0 w2 := by
    refine g1.form0 hU a2 ?_ ?_ <;> rw [e2]
    · rw [pw_oth (by decide), pw_oth (by decide), pw_oth (by decide), pw_oth (by decide), pw_same]
    · rw [pw_oth (by decide), pw_oth (by decide), pw_oth (by decide), pw_same]
  have m2 : MF9 [] 0 w2 := by
    refine ⟨?_, ?_, fun i hi => absurd hi (Nat.not_lt_zero i)⟩ <;> rw [e2]
    · rw [pw_oth (by decide), pw_oth (by decide), pw_same]; rfl
    · rw [pw_oth (by decide), pw_same]; rfl
  have u2 : pw_I w2 61 22 = nI 0 := by rw [e2, pw_same]; rfl
  have R := mFRu (E := E) (d := d) (Q := Q) (t := t) (D := dBit D 3) hS bit3_set
  have S := rc_tie0 R (p := tE T n p) (tE_le hG.2.2.1) (fun e he w' b' => k0 e (by unfold pFml0; rw [he, pB_L]) w' (b'.np rfl rfl rfl)) (fun z hz w' g' => k1 _ _ (by unfold pFml0; rw [hz, pB_R]) w' g')
  exact eX10_unit g2.1 (S w2 _ (fun w' h' hw' => bX10_formula_33 hw' h') g2 m2 u2)
end MRU
