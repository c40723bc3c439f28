/-! the reference reads a BROTHER -/
def roC (x : Nat) (ro : Nat → Nat) (s : Nat) : Prop := ∀ c, x.testBit c = true → ∃ i, i < s ∧ ro i = c
theorem roC.up {x : Nat} {ro : Nat → Nat} {s a : Nat} (h : roC x ro s) : roC (x ||| 2 ^ a) (uN ro s a) (s + 1) := fun c hc => by
  rw [Nat.testBit_or, Bool.or_eq_true] at hc
  rcases hc with hc | hc
  · obtain ⟨i, h1, h2⟩ := h c hc
    exact ⟨i, by omega, by rw [uN_o (by omega)]; exact h2⟩
  · have : a = c := by
      by_cases e : a = c
      · exact e
      · rw [Nat.testBit_two_pow_of_ne e] at hc; cases hc
    exact ⟨s, by omega, by rw [uN_s]; exact this⟩
section MPA
variable {E : px_E} {d : Nat} {w w0 : pw_W} {Q : Option Value → pw_W → Prop} {t : ct_T} {T : Nat → Nat} {n p : Nat} {D : DS}
theorem mOneB {e : Nat × Nat} {s : Nat} {y : Int32} (h2 : aNb (dH D) < 2) (hs : s ≤ 6) (hB : MBd t e D w0 w) (h79 : pw_I w 79 (aNb (dH D)) = nI s) (k : Q none w) : ∀ m i, i + m = s → px_W E mX10_readOne (d + 4) 0 0 7 [.ref 61, .int y, .int (nI i)] [] w Q := by
  have n47 := hB.2.2.2.2.2.2.2
  intro m
  induction m with
  | zero =>
    intro i e
    exact bX10_readOne_7 hB.1 _ n47 h2 (fun _ z => absurd z hB.gt.1) (fun _ _ => k) (fun z => absurd (by rw [h79]; exact nI_le (by omega) (by omega)) z) (fun z => absurd (by rw [h79]; exact nI_le (by omega) (by omega)) z)
  | succ m ih =>
    intro i e
    refine bX10_readOne_7 hB.1 _ n47 h2 (fun z => absurd z (by rw [h79]; exact nI_ge (by omega) (by omega))) (fun z => absurd z (by rw [h79]; exact nI_ge (by omega) (by omega))) (fun _ _ => ?_) (fun _ z => absurd z hB.gt.2)
    refine bX10_readOne_50 hB.1 ?_
    rw [← nI_succ]
    exact ih (i + 1) (by omega)
theorem mOneG {x s a c : Nat} {ro : Nat → Nat} (hS : MS0 T n w0) (hD : WD D) (h2 : aNb (dH D) < 2) (hG : MG t T n p D w0 w) (h3 : tC T n p = 3) (hr : roOK (aNp (dH D)) x ro s) (hC : roC x ro s) (ha : a < aNp (dH D)) (f7 : pw_I w 77 (aNb (dH D)) = nI c) (h79 : pw_I w 79 (aNb (dH D)) = nI s) (h78 : ∀ i, i < s → pw_I w 78 (6 * aNb (dH D) + i) = nI (ro i))
    (k1 : x.testBit a = false → s < 6 → ∀ w', MG t T n (tE T n p) D w0 w' → pw_I w' 77 (aNb (dH D)) = nI c → pw_I w' 79 (aNb (dH D)) = nI (s + 1) → (∀ i, i < s + 1 → pw_I w' 78 (6 * aNb (dH D) + i) = nI (uN ro s a i)) → Q none w') (k0 : x.testBit a = true → ∀ w', MBd t (3, tQ T n p) D w0 w' → Q none w') :
    ∀ m i, i + m = s → (∀ j, j < i → ro j ≠ a) → px_W E mX10_readOne (d + 4) 0 0 7 [.ref 61, .int (nI a), .int (nI i)] [] w Q := by
  have n47 := hG.2.2.2.2.2.2.1.1.2.2.1
  have n6 := hD.1.1
  have s6 : s ≤ 6 := by rw [← hr.2.1]; unfold b6; exact List.countP_le_length
  intro m
  induction m with
  | zero =>
    intro i e hno
    have hx : x.testBit a = false := by
      cases h : x.testBit a with
      | false => rfl
      | true =>
        obtain ⟨j, j1, j2⟩ := hC a h
        exact absurd j2 (hno j (by omega))
    have lt6 : s < 6 := by
      rcases Nat.lt_or_ge s 6 with h | h
      · exact h
      · have e63 := b6_full x hr.1 (by rw [hr.2.1]; exact h)
        rw [e63, b6_63 a (by omega)] at hx
        cases hx
    refine bX10_readOne_7 hG.1 _ n47 h2 (fun _ _ => ?_) (fun _ z => absurd hG.le z) (fun z => absurd (by rw [h79]; exact nI_le (by omega) (by omega)) z) (fun z => absurd (by rw [h79]; exact nI_le (by omega) (by omega)) z)
    refine bX10_readOne_64 hG.1 _ n47 h2 (6 * aNb (dH D) + s) ?_ (by omega) ?_
    · have : (6 : Int32) * nI (aNb (dH D)) = nI (6 * aNb (dH D)) := pk_mul 6 _
      rw [n47, this, h79, nI_add]
    · rw [h79, ← nI_succ]
      have g2 : MG t T n p D w0 (pw_sI (pw_sI w 78 (6 * aNb (dH D) + s) (nI a)) 79 (aNb (dH D)) (nI (s + 1))) := by
        refine (hG.st (a := 78) (by decide) (fun z => by omega) (fun z => by omega) (fun z => by omega) (fun _ b hb j hj => ?_)).st (a := 79) (by decide) (fun z => by omega) (fun z => by omega) (fun _ => Nat.le_refl _) (fun z => by omega)
        have := (hD.1.2.2.2.2.2.2.2.2.2.1 b hb).2.2
        omega
      refine tX10_tok hS g2 (by omega) (fun w3 g3 a3 => bX10_readOne_104 g3.1 (k1 hx lt6 w3 g3 ?_ ?_ (fun i hi => ?_)))
      · rw [a3.I List.not_mem_nil (by decide), pw_oth (by omega), pw_oth (by omega)]; exact f7
      · rw [a3.I List.not_mem_nil (by decide), pw_same]
      · rw [a3.I List.not_mem_nil (by decide), pw_oth (by omega)]
        by_cases q : i = s
        · rw [q, pw_same, uN_s]
        · rw [pw_oth (by omega), uN_o q]; exact h78 i (by omega)
  | succ m ih =>
    intro i e hno
    refine bX10_readOne_7 hG.1 _ n47 h2 (fun z => absurd z (by rw [h79]; exact nI_ge (by omega) (by omega))) (fun z => absurd z (by rw [h79]; exact nI_ge (by omega) (by omega))) (fun _ z => absurd hG.2.2.2.2.1 z) (fun _ _ => ?_)
    have hi := hr.2.2.1 i (by omega)
    refine bX10_readOne_27 hG.1 (6 * aNb (dH D) + i) ?_ (by omega) (fun z => ?_) (fun z => ?_)
    · have : (6 : Int32) * nI (aNb (dH D)) = nI (6 * aNb (dH D)) := pk_mul 6 _
      rw [n47, this, nI_add]
    · rw [h78 i (by omega)] at z
      refine bX10_readOne_50 hG.1 ?_
      rw [← nI_succ]
      refine ih (i + 1) (by omega) (fun j hj => ?_)
      by_cases q : j = i
      · rw [q]; intro e2; exact z (by rw [e2])
      · exact hno j (by omega)
    · rw [h78 i (by omega)] at z
      have e2 : ro i = a := za_eq (by omega) (by omega) z
      refine tX10_wrongG (x := 3) rfl (by decide) hG hS.1 (fun w' b' a' => ?_)
      rw [if_neg (by omega)] at b'
      refine bX10_readOne_50 b'.1 ?_
      rw [← nI_succ]
      exact mOneB h2 s6 b' ((a'.I List.not_mem_nil (by decide) _).trans h79) (k0 (by rw [← e2]; exact hi.2) w' b') m (i + 1) (by omega)
theorem tX10_readOne {x s c : Nat} {ro : Nat → Nat} (hS : MS0 T n w0) (hD : WD D) (h2 : aNb (dH D) < 2) (hG : MG t T n p D w0 w) (hr : roOK (aNp (dH D)) x ro s) (hC : roC x ro s) (f7 : pw_I w 77 (aNb (dH D)) = nI c) (h79 : pw_I w 79 (aNb (dH D)) = nI s) (h78 : ∀ i, i < s → pw_I w 78 (6 * aNb (dH D) + i) = nI (ro i))
    (k1 : ∀ q a, pOld T n (dP D) (aNp (dH D)) x p = .inr (q, a) → ∀ w', MG t T n q D w0 w' → pw_I w' 77 (aNb (dH D)) = nI c → pw_I w' 79 (aNb (dH D)) = nI (s + 1) → (∀ i, i < s + 1 → pw_I w' 78 (6 * aNb (dH D) + i) = nI (uN ro s a i)) → Q none w') (k0 : ∀ e, pOld T n (dP D) (aNp (dH D)) x p = .inl e → ∀ w', MBd t e D w0 w' → Q none w') : px_Call E (d + 4) 0 0 mX10_readOne [.ref 61] w Q := by
  have s6 : s ≤ 6 := by rw [← hr.2.1]; unfold b6; exact List.countP_le_length
  refine eX10_readOne hG.1 (tX10_oldPerson hD hS hG (fun a ha => ?_) (fun e he w1 b1 a1 => ?_))
  · obtain ⟨c3, la⟩ := pOw_r ha
    refine bX10_readOne_4 hG.1 (mOneG (x := x) (s := s) (a := a) (c := c) (ro := ro) hS hD h2 hG c3 hr hC la f7 h79 h78 (fun hx _ w' g' e1 e2 e3 => ?_) (fun hx w' b' => ?_) s 0 (by omega) (fun j hj => absurd hj (Nat.not_lt_zero j)))
    · exact k1 _ a (pOld_eq.trans ((pB_r ha).trans (if_neg (by rw [hx]; decide)))) w' g' e1 e2 e3
    · exact k0 _ (pOld_eq.trans ((pB_r ha).trans (if_pos hx))) w' b'
  · exact bX10_readOne_4 b1.1 (mOneB h2 s6 b1 ((a1.I List.not_mem_nil (by decide) _).trans h79) (k0 e (pOld_eq.trans (pB_l he)) w1 b1) s 0 (by omega))
end MPA
