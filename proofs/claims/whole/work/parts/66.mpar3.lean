/-! the reference reads names, a PERSON, a meeting -/
section MPA
variable {E : px_E} {d : Nat} {w w0 : pw_W} {Q : Option Value → pw_W → Prop} {t : ct_T} {T : Nat → Nat} {n p : Nat} {D : DS}
theorem mFnd {f : Nat → List Nat} {l : List Nat} {k off : Nat} (hw : w.1 = cs t) (hf : nmOK f k) (hl : lwr l) (hl8 : l.length ≤ 8) (hk : off + k ≤ 8) (hr : ∀ i, i < k → pw_L w 63 (off + i) = Int64.ofNat (e256 (f i))) (h9 : pw_L w 61 9 = Int64.ofNat (e256 l)) (K1 : fnd f l k 0 < k → Q (some (.int (nI (fnd f l k 0)))) w) (K0 : fnd f l k 0 = k → Q (some (.int (-1))) w) :
    ∀ (m i : Nat) (y : Int32), i + m = k → ((y = -1 ∧ ∀ j, j < i → f j ≠ l) ∨ ∃ j, j < i ∧ y = nI j ∧ f j = l) → px_W E mX10_find (d + 1) 0 0 5 [.ref 61, .int (nI off), .int (nI k), .int y, .int (nI i)] [] w Q := by
  intro m
  induction m with
  | zero =>
    intro i y e hy
    refine bX10_find_5 hw (fun _ => ?_) (fun z => absurd (nI_le (by omega) (by omega)) z)
    have fl := fnd_le (f := f) (l := l) k 0
    rcases hy with ⟨rfl, h⟩ | ⟨j, hj, rfl, h⟩
    · refine K0 ?_
      rcases Nat.lt_or_ge (fnd f l k 0) k with q | q
      · exact absurd (fnd_is k 0 (by omega)) (h _ (by omega))
      · omega
    · have q : fnd f l k 0 < k := by
        rcases Nat.lt_or_ge (fnd f l k 0) k with q | q
        · exact q
        · exact absurd h (fnd_no k 0 (by omega) j (by omega) (by omega))
      have e2 : fnd f l k 0 = j := hf.2 _ _ q (by omega) ((fnd_is k 0 (by omega)).trans h.symm)
      have := K1 q
      rw [e2] at this
      exact this
  | succ m ih =>
    intro i y e hy
    refine bX10_find_5 hw (fun z => absurd z (nI_ge (by omega) (by omega))) (fun _ => ?_)
    have hfi := hf.1 i (by omega)
    have cmp : pw_L w 63 (off + i) = pw_L w 61 9 ↔ f i = l := by rw [hr i (by omega), h9]; exact n256 hfi.1 hl hfi.2 hl8
    refine bX10_find_11 hw (off + i) (nI_add _ _) (by omega) (fun z => ?_) (fun z => ?_) <;> rw [cmp] at z
    · refine bX10_find_34 hw ?_
      rw [← nI_succ]
      refine ih (i + 1) y (by omega) ?_
      rcases hy with ⟨h1, h2⟩ | ⟨j, h1, h2, h3⟩
      · left
        refine ⟨h1, fun j hj => ?_⟩
        by_cases q : j = i
        · rw [q]; exact z
        · exact h2 j (by omega)
      · exact Or.inr ⟨j, by omega, h2, h3⟩
    · refine bX10_find_34 hw ?_
      rw [← nI_succ]
      exact ih (i + 1) (nI i) (by omega) (Or.inr ⟨i, by omega, rfl, z⟩)
theorem tX10_find {f : Nat → List Nat} {l : List Nat} {k off : Nat} {vo vk : Int32} (hvo : vo = nI off) (hvk : vk = nI k) (hw : w.1 = cs t) (hf : nmOK f k) (hl : lwr l) (hl8 : l.length ≤ 8) (hk : off + k ≤ 8) (hr : ∀ i, i < k → pw_L w 63 (off + i) = Int64.ofNat (e256 (f i))) (h9 : pw_L w 61 9 = Int64.ofNat (e256 l)) (K1 : fnd f l k 0 < k → Q (some (.int (nI (fnd f l k 0)))) w) (K0 : fnd f l k 0 = k → Q (some (.int (-1))) w) : px_Call E (d + 1) 0 0 mX10_find [.ref 61, .int vo, .int vk] w Q := by
  subst hvo
  subst hvk
  exact eX10_find hw (mFnd hw hf hl hl8 hk hr h9 K1 K0 k 0 (-1) (by omega) (Or.inl ⟨rfl, fun j hj => absurd hj (Nat.not_lt_zero j)⟩))
theorem nmOK.lo {f : Nat → List Nat} {k j : Nat} (h : nmOK f k) (hj : j ≤ k) : nmOK f j := ⟨fun i hi => h.1 i (by omega), fun i i2 h1 h2 => h.2 i i2 (by omega) (by omega)⟩
/-- newName: off 0 for PEOPLE, 6 for BROTHERS -/
theorem tX10_new {f : Nat → List Nat} {k off : Nat} {vo vk : Int32} {D' : DS} (hvo : vo = nI off) (hvk : vk = nI k) (hk : off + k < 8) (hf : nmOK f k) (hr : ∀ w', MD D w' → ∀ i, i < k → pw_L w' 63 (off + i) = Int64.ofNat (e256 (f i))) (hS : MS0 T n w0) (hG : MG t T n p D w0 w) (hc : tC T n p ≠ 1) (hD' : ∀ w', MD D w' → pw_L w' 61 9 = Int64.ofNat (e256 (tW T n (tE T n p))) → MD D' (pw_sL w' 63 (off + k) (pw_L w' 61 9))) (k1 : ∀ q, pNew T n f k (tE T n p) = .inr q → ∀ w', MG t T n q D' w0 w' → agF [63] tfM w w' → Q none w') (k0 : ∀ e, pNew T n f k (tE T n p) = .inl e → ∀ w', MBd t e D w0 w' → agF [] tfM w w' → Q none w') : px_Call E (d + 4) 0 0 mX10_newName [.ref 61, .int vo, .int vk] w Q := by
  subst hvo
  subst hvk
  refine eX10_newName hG.1 (tX10_tok hS hG hc (fun w1 g1 a1 => ?_))
  have hk1 := g1.2.2.2.1
  have bad : ∀ e w', pNew T n f k (tE T n p) = .inl e → MBd t e D w0 w' → agF [] tfM w w' → px_W E mX10_newName (d + 4) 0 0 33 [.ref 61, .int (nI off), .int (nI k)] [] w' Q := fun e w' he b a => bX10_newName_33 b.1 (fun z => absurd z b.gt.1) (fun _ => k0 e he w' b a)
  refine bX10_newName_4 g1.1 (fun z => ?_) (fun z => ?_) <;> rw [hk1.nm] at z
  · have t3 := tC_3 z
    refine tX10_find (f := f) (l := tW T n (tE T n p)) (k := k) (off := off) rfl rfl g1.1 hf tW_lwr t3.2 (by omega) (hr w1 g1.2.2.2.2.2.2) (hk1.2.2.2.2.2 (Or.inl z)) (fun q => ?_) (fun q => ?_)
    · refine bX10_newName_25 g1.1 (fun z2 => absurd z2 (nI_pos (by omega))) (fun _ => ?_)
      refine tX10_wrongG (x := 3) rfl (by decide) g1 hS.1 (fun w' b' a' => bad _ w' ?_ b' (a1.tr a'))
      unfold pNew
      rw [if_pos z, if_neg (by omega), if_neg (by omega)]
    · refine bX10_newName_25 g1.1 (fun _ => ?_) (fun z2 => absurd (by decide) z2)
      refine bX10_newName_33 g1.1 (fun _ => ?_) (fun z2 => absurd g1.le z2)
      refine bX10_newName_41 g1.1 (off + k) (nI_add _ _) hk ?_
      have a63 : agF [63] tfM w1 (pw_sL w1 63 (off + k) (pw_L w1 61 9)) := agF.of (ag.sL (by decide))
      have g2 : MG t T n (tE T n p) D' w0 (pw_sL w1 63 (off + k) (pw_L w1 61 9)) :=
        ⟨hL g1.1, g1.2.1.tr (tfM_p (by decide) a63), g1.2.2.1, hk1.agF (S := [63]) (F := []) (agF.of (ag.sL (by decide))) (by decide) (by decide), g1.2.2.2.2.1, g1.2.2.2.2.2.1, hD' w1 g1.2.2.2.2.2.2 (hk1.2.2.2.2.2 (Or.inl z))⟩
      refine tX10_tok hS g2 (by omega) (fun w3 g3 a3 => bX10_newName_57 g3.1 (k1 _ ?_ w3 g3 ((a1.mono (fun a h => absurd h List.not_mem_nil) (fun a h => h)).tr (a63.tr (a3.mono (fun a h => absurd h List.not_mem_nil) (fun a h => h))))))
      unfold pNew
      rw [if_pos z, if_pos q]
  · refine tX10_wrongG (x := 2) rfl (by decide) g1 hS.1 (fun w' b' a' => bX10_newName_16 b'.1 (bad _ w' ?_ b' (a1.tr a')))
    unfold pNew
    rw [if_neg z]
    rfl
/-- oldPerson: it does not go on -/
def pOw (T : Nat → Nat) (n : Nat) (f : Nat → List Nat) (k p : Nat) : PR Nat := if tC T n p = 3 then (if fnd f (tW T n p) k 0 = k then .inl (5, tQ T n p) else .inr (fnd f (tW T n p) k 0)) else .inl (rfu T n p)
theorem pOld_eq {f : Nat → List Nat} {k x : Nat} : pOld T n f k x p = pB (pOw T n f k p) (fun a => if x.testBit a = true then .inl (3, tQ T n p) else .inr (tE T n p, a)) := by
  unfold pOld pOw
  by_cases h : tC T n p = 3
  · rw [if_pos h, if_pos h]
    by_cases h2 : fnd f (tW T n p) k 0 = k
    · rw [if_pos h2, if_pos h2]; rfl
    · rw [if_neg h2, if_neg h2]; rfl
  · rw [if_neg h, if_neg h]; rfl
theorem pOw_r {f : Nat → List Nat} {k a : Nat} (h : pOw T n f k p = .inr a) : tC T n p = 3 ∧ a < k := by
  unfold pOw at h
  split at h
  · rename_i h1
    split at h
    · cases h
    · rename_i h2
      cases h
      have := fnd_le (f := f) (l := tW T n p) k 0
      exact ⟨h1, by omega⟩
  · cases h
theorem tX10_oldPerson (hD : WD D) (hS : MS0 T n w0) (hG : MG t T n p D w0 w) (k1 : ∀ a, pOw T n (dP D) (aNp (dH D)) p = .inr a → Q (some (.int (nI a))) w) (k0 : ∀ e, pOw T n (dP D) (aNp (dH D)) p = .inl e → ∀ w', MBd t e D w0 w' → agF [] tfM w w' → Q (some (.int 0)) w') : px_Call E (d + 3) 0 0 mX10_oldPerson [.ref 61] w Q := by
  have hk := hG.2.2.2.1
  have hX := hG.2.2.2.2.2.2
  have n6 := hD.1.1
  have hnm := hD.2.1
  have bad : ∀ e w', pOw T n (dP D) (aNp (dH D)) p = .inl e → MBd t e D w0 w' → agF [] tfM w w' → px_W E mX10_oldPerson (d + 3) 0 0 41 [.ref 61] [] w' Q := fun e w' he b a => bX10_oldPerson_41 b.1 (fun z => absurd z b.gt.1) (fun _ => bX10_oldPerson_61 b.1 (k0 e he w' b a))
  refine eX10_oldPerson hG.1 (fun _ z => ?_) (fun _ z => ?_) (fun z => absurd hG.le z) <;> rw [hk.nm] at z
  · have t3 := tC_3 z
    have fd : ∀ {Q2 : Option Value → pw_W → Prop}, (fnd (dP D) (tW T n p) (aNp (dH D)) 0 < aNp (dH D) → Q2 (some (.int (nI (fnd (dP D) (tW T n p) (aNp (dH D)) 0)))) w) → (fnd (dP D) (tW T n p) (aNp (dH D)) 0 = aNp (dH D) → Q2 (some (.int (-1))) w) → px_Call E (d + 2) 0 0 mX10_find [.ref 61, .int 0, .int (pw_I w 61 45)] w Q2 := fun K1 K0 =>
      tX10_find (f := dP D) (l := tW T n p) (off := 0) rfl hX.1.1.1 hG.1 (hnm.1.lo hnm.2.1) tW_lwr t3.2 (by omega) (fun i hi => by rw [Nat.zero_add]; exact hX.2.1.1 i (by omega)) (hk.2.2.2.2.2 (Or.inl z)) K1 K0
    refine fd (fun q => ?_) (fun q => ?_)
    · refine bX10_oldPerson_33 hG.1 (fun _ => ?_) (fun z2 => absurd (nI_le (a := 0) (by omega) (by omega)) z2)
      refine bX10_oldPerson_41 hG.1 (fun _ => ?_) (fun z2 => absurd hG.le z2)
      refine fd (fun _ => bX10_oldPerson_61 hG.1 (k1 _ ?_)) (fun q2 => absurd q2 (by omega))
      unfold pOw
      rw [if_pos z, if_neg (by omega)]
    · refine bX10_oldPerson_33 hG.1 (fun z2 => absurd z2 (by decide)) (fun _ => ?_)
      refine tX10_wrongG (x := 5) rfl (by decide) hG hS.1 (fun w' b' a' => bad _ w' ?_ b' a')
      unfold pOw
      rw [if_pos z, if_pos q, if_neg (by omega)]
  · refine tX10_wrongG (x := 2) rfl (by decide) hG hS.1 (fun w' b' a' => bX10_oldPerson_21 b'.1 (bad _ w' ?_ b' a'))
    unfold pOw
    rw [if_neg z]
    rfl
theorem tX10_oldPersonB {e : Nat × Nat} (hB : MBd t e D w0 w) (k : Q (some (.int 0)) w) : px_Call E (d + 3) 0 0 mX10_oldPerson [.ref 61] w Q :=
  eX10_oldPerson hB.1 (fun z => absurd z hB.gt.1) (fun z => absurd z hB.gt.1) (fun _ => k)
end MPA
