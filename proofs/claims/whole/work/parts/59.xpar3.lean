/-! names -/
def fnd (f : Nat → List Nat) (l : List Nat) : Nat → Nat → Nat
  | 0, i => i
  | m + 1, i => if f i = l then i else fnd f l m (i + 1)
theorem fnd_le {f : Nat → List Nat} {l : List Nat} : ∀ m i, i ≤ fnd f l m i ∧ fnd f l m i ≤ i + m := by
  intro m
  induction m with
  | zero => intro i; exact ⟨Nat.le_refl _, Nat.le_refl _⟩
  | succ m ih =>
    intro i
    rw [fnd]
    split
    · omega
    · have := ih (i + 1); omega
theorem fnd_is {f : Nat → List Nat} {l : List Nat} : ∀ m i, fnd f l m i < i + m → f (fnd f l m i) = l := by
  intro m
  induction m with
  | zero => intro i h; rw [fnd] at h; omega
  | succ m ih =>
    intro i h
    rw [fnd] at h ⊢
    by_cases e : f i = l
    · rw [if_pos e]; exact e
    · rw [if_neg e] at h ⊢; exact ih (i + 1) (by omega)
theorem fnd_no {f : Nat → List Nat} {l : List Nat} : ∀ m i, fnd f l m i = i + m → ∀ j, i ≤ j → j < i + m → f j ≠ l := by
  intro m
  induction m with
  | zero => intro i h j h1 h2; omega
  | succ m ih =>
    intro i h j h1 h2
    rw [fnd] at h
    by_cases e : f i = l
    · rw [if_pos e] at h; omega
    · rw [if_neg e] at h
      by_cases q : j = i
      · rw [q]; exact e
      · exact ih (i + 1) (by omega) j (by omega) (by omega)
def uN {α : Type} (f : Nat → α) (k : Nat) (v : α) : Nat → α := fun i => if i = k then v else f i
theorem uN_s {α : Type} {f : Nat → α} {k : Nat} {v : α} : uN f k v k = v := if_pos rfl
theorem uN_o {α : Type} {f : Nat → α} {k j : Nat} {v : α} (h : j ≠ k) : uN f k v j = f j := if_neg h
theorem nmOK.up {f : Nat → List Nat} {k : Nat} {l : List Nat} (h : nmOK f k) (h1 : lwr l) (h2 : l.length ≤ 8) (h3 : ∀ j, j < k → f j ≠ l) : nmOK (uN f k l) (k + 1) := by
  refine ⟨fun i hi => ?_, fun i j hi hj e => ?_⟩
  · by_cases q : i = k
    · rw [q, uN_s]; exact ⟨h1, h2⟩
    · rw [uN_o q]; exact h.1 i (by omega)
  · by_cases q : i = k
    · by_cases q2 : j = k
      · omega
      · rw [q, uN_s, uN_o q2] at e
        exact absurd e.symm (h3 j (by omega))
    · by_cases q2 : j = k
      · rw [q2, uN_s, uN_o q] at e
        exact absurd e (h3 i (by omega))
      · rw [uN_o q, uN_o q2] at e
        exact h.2 i j (by omega) (by omega) e
/-- a new name: it is not among the first k -/
def pNew (T : Nat → Nat) (n : Nat) (f : Nat → List Nat) (k p : Nat) : PR Nat := if tC T n p = 3 then (if fnd f (tW T n p) k 0 = k then .inr (tE T n p) else .inl (3, tQ T n p)) else .inl (rfu T n p)
/-- the name of one of the first k, who is not among taken -/
def pOld (T : Nat → Nat) (n : Nat) (f : Nat → List Nat) (k taken p : Nat) : PR (Nat × Nat) := if tC T n p = 3 then (if fnd f (tW T n p) k 0 = k then .inl (5, tQ T n p) else if taken.testBit (fnd f (tW T n p) k 0) = true then .inl (3, tQ T n p) else .inr (tE T n p, fnd f (tW T n p) k 0)) else .inl (rfu T n p)
section XPA
variable {E : px_E} {d : Nat} {w w0 : pw_W} {Q : Option Value → pw_W → Prop} {t : ct_T} {T : Nat → Nat} {n p : Nat} {D : DS}
theorem xIx {r nn : Nat} {f : Nat → List Nat} {l : List Nat} {k : Nat} (hw : w.1 = cs t) (hs : (cs t).2.1 r = (103, nn)) (hnn : nn < 2 ^ 31) (hk : k ≤ nn) (hf : ∀ i, i < k → lwr (f i) ∧ (f i).length ≤ 8) (hl : lwr l) (hl8 : l.length ≤ 8) (hr : ∀ i, i < k → pw_L w r i = Int64.ofNat (e27 (f i))) (h6 : pw_L w 17 6 = Int64.ofNat (e27 l)) (K1 : fnd f l k 0 < k → Q (some (.int (nI (fnd f l k 0)))) w) (K0 : fnd f l k 0 = k → Q (some (.int (-1))) w) :
    ∀ (m i : Nat), i + m = k → fnd f l m i = fnd f l k 0 → px_W E mX5_indexOf (d + 1) 0 0 2 [.ref 16, .ref r, .int (nI k), .int (nI i)] [] w Q := by
  intro m
  induction m with
  | zero =>
    intro i e e2
    rw [fnd] at e2
    have bad : px_W E mX5_indexOf (d + 1) 0 0 35 [.null, .null, .null, .null] [] w Q := bX5_indexOf_35 hw hs hnn (K0 (by omega))
    exact bX5_indexOf_2 hw hs hnn (fun _ => bad) (fun _ _ => bad) (fun z => absurd (nI_le (by omega) (by omega)) z)
  | succ m ih =>
    intro i e e2
    refine bX5_indexOf_2 hw hs hnn (fun z => absurd z (nI_ge (by omega) (by omega))) (fun _ z => absurd z (nI_ge (by omega) hnn)) (fun _ _ => ?_)
    have hfi := hf i (by omega)
    have cmp : pw_L w r i = pw_L w 17 6 ↔ f i = l := by rw [hr i (by omega), h6]; exact n27 hfi.1 hl hfi.2 hl8
    rw [fnd] at e2
    refine bX5_indexOf_13 hw hs hnn i rfl (by omega) (fun z => ?_) (fun z => ?_) <;> rw [cmp] at z
    · rw [if_neg z] at e2
      rw [← nI_succ]
      exact ih (i + 1) (by omega) e2
    · rw [if_pos z] at e2
      rw [e2]
      exact K1 (by omega)
theorem tX5_indexOf {r nn : Nat} {f : Nat → List Nat} {l : List Nat} {k : Nat} {v : Int32} (hv : v = nI k) (hw : w.1 = cs t) (hs : (cs t).2.1 r = (103, nn)) (hnn : nn < 2 ^ 31) (hk : k ≤ nn) (hf : ∀ i, i < k → lwr (f i) ∧ (f i).length ≤ 8) (hl : lwr l) (hl8 : l.length ≤ 8) (hr : ∀ i, i < k → pw_L w r i = Int64.ofNat (e27 (f i))) (h6 : pw_L w 17 6 = Int64.ofNat (e27 l)) (K1 : fnd f l k 0 < k → Q (some (.int (nI (fnd f l k 0)))) w) (K0 : fnd f l k 0 = k → Q (some (.int (-1))) w) : px_Call E (d + 1) 0 0 mX5_indexOf [.ref 16, .ref r, .int v] w Q := by
  subst hv
  exact eX5_indexOf hw hs hnn (xIx hw hs hnn hk hf hl hl8 hr h6 K1 K0 k 0 (by omega) rfl)
theorem nI_mn {a : Nat} (h : a < 2 ^ 31) : ¬ nI a = -1 := fun z => by
  have h1 := nI_pos h
  rw [z] at h1
  exact h1 (by decide)
/-- the draft with one more name of a PERSON -/
def dNP (D : DS) (l : List Nat) : DS := (dH D, uN (dP D) (aNp (dH D)) l, dB D, dO D, aNp (dH D) + 1, dJ D, dF D)
def dNB (D : DS) (l : List Nat) : DS := (dH D, dP D, uN (dB D) (aNb (dH D)) l, dO D, dK D, aNb (dH D) + 1, dF D)
theorem tX5_newP {v : Int32} (hv : v = nI (aNp (dH D))) (h6 : aNp (dH D) < 6) (hS : XS0 t T n w0) (hD : WD D) (hG : XG t T n p D w0 w) (k1 : ∀ q, pNew T n (dP D) (aNp (dH D)) p = .inr q → ∀ w', XG t T n q (dNP D (tW T n p)) w0 w' → ag [17, 20] w w' → Q (some (.int 1)) w') (k0 : ∀ e, pNew T n (dP D) (aNp (dH D)) p = .inl e → ∀ w', XBd t T n e w0 w' → Q (some (.int 0)) w') : px_Call E (d + 7) 0 0 mX5_readNewName [.ref 16, .ref 20, .int v] w Q := by
  subst hv
  have hk := hG.2.2.2.1
  have c3 : pw_I w 17 4 = 3 ↔ tC T n p = 3 := hk.c rfl (by decide)
  refine eX5_readNewName hG.1 sh_20 (by decide) (fun z => ?_) (fun z => ?_) <;> rw [c3] at z
  · have t3 := tC_3 z
    have hnm := hD.2.1
    refine tX5_indexOf (f := dP D) (l := tW T n p) (k := aNp (dH D)) rfl hG.1 sh_20 (by decide) (by omega) (fun i hi => hnm.1.1 i (by omega)) tW_lwr t3.2 (fun i hi => hG.2.2.2.2.2.2.2.1 i (by omega)) hk.2.2.2.2.1 (fun q => ?_) (fun q => ?_)
    · refine bX5_readNewName_22 hG.1 sh_20 (by decide) (fun z2 => absurd z2 (nI_mn (by omega))) (fun _ => ?_)
      refine tX5_setFault (x := 3) hS hD hG rfl (by decide) (fun w1 h1 _ => bX5_readNewName_31 h1.1 sh_20 (by decide) (Or.inl rfl) (k0 _ ?_ w1 h1))
      unfold pNew
      rw [if_pos z, if_neg (by omega)]
    · refine bX5_readNewName_22 hG.1 sh_20 (by decide) (fun _ => ?_) (fun z2 => absurd rfl z2)
      refine bX5_readNewName_32 hG.1 sh_20 (by decide) _ rfl (by omega) ?_
      have m20 : (20 : Nat) ∈ dX t := by simp
      have a20 : ag [20] w (pw_sL w 20 (aNp (dH D)) (pw_L w 17 6)) := ag.sL (by decide)
      have g1 : XG t T n p (dNP D (tW T n p)) w0 (pw_sL w 20 (aNp (dH D)) (pw_L w 17 6)) := by
        obtain ⟨hw, ha, hp, hk, f5, f6, hX⟩ := hG
        refine ⟨hL hw, ha.tr (ag.sL m20), hp, hk.ag a20 (by decide), (a20.I (by decide) 5).trans f5, (a20.I (by decide) 6).trans f6, RXD.ag hX.1 a20 (dX_H hS.2.1 (by decide)), fun i hi => ?_, fun i hi => (a20.L (by decide) i).trans (hX.2.2.1 i hi), (a20.I (by decide) 4).trans hX.2.2.2⟩
        show _ = Int64.ofNat (e27 (uN (dP D) (aNp (dH D)) (tW T n p) i))
        rw [pw_L_sL]
        by_cases e : i = aNp (dH D)
        · rw [if_pos ⟨rfl, e⟩, e, uN_s]; exact hk.2.2.2.2.1
        · rw [if_neg (fun z => e z.2), uN_o e]
          have hi : i < aNp (dH D) + 1 := hi
          exact hX.2.1 i (by omega)
      refine tX5_adv hS g1 (fun w1 h1 a1 => bX5_readNewName_49 h1.1 sh_20 (by decide) (k1 _ ?_ w1 h1 ((ag.sL (by decide)).tr (a1.mono (fun a h => by rw [List.mem_singleton.mp h]; decide)))))
      unfold pNew
      rw [if_pos z, if_pos q]
  · refine tX5_refuse hS hD hG (fun w1 h1 _ => bX5_readNewName_15 h1.1 sh_20 (by decide) (Or.inl rfl) (k0 _ ?_ w1 h1))
    unfold pNew
    rw [if_neg z]
theorem tX5_newB {v : Int32} (hv : v = nI (aNb (dH D))) (h6 : aNb (dH D) < 2) (hS : XS0 t T n w0) (hD : WD D) (hG : XG t T n p D w0 w) (k1 : ∀ q, pNew T n (dB D) (aNb (dH D)) p = .inr q → ∀ w', XG t T n q (dNB D (tW T n p)) w0 w' → ag [17, 21] w w' → Q (some (.int 1)) w') (k0 : ∀ e, pNew T n (dB D) (aNb (dH D)) p = .inl e → ∀ w', XBd t T n e w0 w' → Q (some (.int 0)) w') : px_Call E (d + 7) 0 0 mX5_readNewName [.ref 16, .ref 21, .int v] w Q := by
  subst hv
  have hk := hG.2.2.2.1
  have c3 : pw_I w 17 4 = 3 ↔ tC T n p = 3 := hk.c rfl (by decide)
  refine eX5_readNewName hG.1 sh_21 (by decide) (fun z => ?_) (fun z => ?_) <;> rw [c3] at z
  · have t3 := tC_3 z
    have hnm := hD.2.2.1
    refine tX5_indexOf (f := dB D) (l := tW T n p) (k := aNb (dH D)) rfl hG.1 sh_21 (by decide) (by omega) (fun i hi => hnm.1.1 i (by omega)) tW_lwr t3.2 (fun i hi => hG.2.2.2.2.2.2.2.2.1 i (by omega)) hk.2.2.2.2.1 (fun q => ?_) (fun q => ?_)
    · refine bX5_readNewName_22 hG.1 sh_21 (by decide) (fun z2 => absurd z2 (nI_mn (by omega))) (fun _ => ?_)
      refine tX5_setFault (x := 3) hS hD hG rfl (by decide) (fun w1 h1 _ => bX5_readNewName_31 h1.1 sh_21 (by decide) (Or.inl rfl) (k0 _ ?_ w1 h1))
      unfold pNew
      rw [if_pos z, if_neg (by omega)]
    · refine bX5_readNewName_22 hG.1 sh_21 (by decide) (fun _ => ?_) (fun z2 => absurd rfl z2)
      refine bX5_readNewName_32 hG.1 sh_21 (by decide) _ rfl (by omega) ?_
      have m20 : (21 : Nat) ∈ dX t := by simp
      have a20 : ag [21] w (pw_sL w 21 (aNb (dH D)) (pw_L w 17 6)) := ag.sL (by decide)
      have g1 : XG t T n p (dNB D (tW T n p)) w0 (pw_sL w 21 (aNb (dH D)) (pw_L w 17 6)) := by
        obtain ⟨hw, ha, hp, hk, f5, f6, hX⟩ := hG
        refine ⟨hL hw, ha.tr (ag.sL m20), hp, hk.ag a20 (by decide), (a20.I (by decide) 5).trans f5, (a20.I (by decide) 6).trans f6, RXD.ag hX.1 a20 (dX_H hS.2.1 (by decide)), fun i hi => (a20.L (by decide) i).trans (hX.2.1 i hi), fun i hi => ?_, (a20.I (by decide) 4).trans hX.2.2.2⟩
        show _ = Int64.ofNat (e27 (uN (dB D) (aNb (dH D)) (tW T n p) i))
        rw [pw_L_sL]
        by_cases e : i = aNb (dH D)
        · rw [if_pos ⟨rfl, e⟩, e, uN_s]; exact hk.2.2.2.2.1
        · rw [if_neg (fun z => e z.2), uN_o e]
          have hi : i < aNb (dH D) + 1 := hi
          exact hX.2.2.1 i (by omega)
      refine tX5_adv hS g1 (fun w1 h1 a1 => bX5_readNewName_49 h1.1 sh_21 (by decide) (k1 _ ?_ w1 h1 ((ag.sL (by decide)).tr (a1.mono (fun a h => by rw [List.mem_singleton.mp h]; decide)))))
      unfold pNew
      rw [if_pos z, if_pos q]
  · refine tX5_refuse hS hD hG (fun w1 h1 _ => bX5_readNewName_15 h1.1 sh_21 (by decide) (Or.inl rfl) (k0 _ ?_ w1 h1))
    unfold pNew
    rw [if_neg z]
theorem tX5_old {taken : Nat} {v : Int32} (hv : v = nI taken) (ht : taken < 64) (hS : XS0 t T n w0) (hD : WD D) (hG : XG t T n p D w0 w) (k1 : ∀ q a, pOld T n (dP D) (aNp (dH D)) taken p = .inr (q, a) → ∀ w', XG t T n q D w0 w' → ag [17] w w' → Q (some (.int (nI a))) w') (k0 : ∀ e, pOld T n (dP D) (aNp (dH D)) taken p = .inl e → ∀ w', XBd t T n e w0 w' → Q (some (.int (-1))) w') : px_Call E (d + 7) 0 0 mX5_readPersonNotIn [.ref 16, .int v] w Q := by
  subst hv
  have hk := hG.2.2.2.1
  have c3 : pw_I w 17 4 = 3 ↔ tC T n p = 3 := hk.c rfl (by decide)
  have hnp := hD.1.1
  refine eX5_readPersonNotIn hG.1 hS.2.1 (fun z => ?_) (fun z => ?_) <;> rw [c3] at z
  · have t3 := tC_3 z
    have hnm := hD.2.1
    refine tX5_indexOf (f := dP D) (l := tW T n p) (k := aNp (dH D)) hG.2.2.2.2.2.2.1.np hG.1 sh_20 (by decide) (by omega) (fun i hi => hnm.1.1 i (by omega)) tW_lwr t3.2 (fun i hi => hG.2.2.2.2.2.2.2.1 i (by omega)) hk.2.2.2.2.1 (fun q => ?_) (fun q => ?_)
    · have hb : js_shr (nI taken) (nI (fnd (dP D) (tW T n p) (aNp (dH D)) 0)) &&& 1 = 1 ↔ taken.testBit (fnd (dP D) (tW T n p) (aNp (dH D)) 0) = true := by
        generalize fnd (dP D) (tW T n p) (aNp (dH D)) 0 = a at q ⊢
        have dec : ∀ x, x < 64 → ∀ a, a < 6 → (decide (js_shr (nI x) (nI a) &&& 1 = 1) = x.testBit a) := by decide +kernel
        have := dec taken ht a (by omega)
        rw [← this, decide_eq_true_eq]
      refine bX5_readPersonNotIn_33 hG.1 hS.2.1 (fun _ z2 => ?_) (fun _ z2 => ?_) (fun z2 => absurd z2 (nI_mn (by omega))) <;> rw [hb] at z2
      · refine tX5_adv hS hG (fun w1 h1 a1 => bX5_readPersonNotIn_71 h1.1 hS.2.1 (k1 _ _ ?_ w1 h1 a1))
        unfold pOld
        rw [if_pos z, if_neg (by omega), if_neg z2]
      · refine tX5_setFault (x := 3) hS hD hG rfl (by decide) (fun w1 h1 _ => bX5_readPersonNotIn_61 h1.1 hS.2.1 (k0 _ ?_ w1 h1))
        unfold pOld
        rw [if_pos z, if_neg (by omega), if_pos z2]
    · refine bX5_readPersonNotIn_33 hG.1 hS.2.1 (fun z2 => absurd rfl z2) (fun z2 => absurd rfl z2) (fun _ => ?_)
      refine tX5_setFault (x := 5) hS hD hG rfl (by decide) (fun w1 h1 _ => bX5_readPersonNotIn_44 h1.1 hS.2.1 (k0 _ ?_ w1 h1))
      unfold pOld
      rw [if_pos z, if_pos q]
  · refine tX5_refuse hS hD hG (fun w1 h1 _ => bX5_readPersonNotIn_15 h1.1 hS.2.1 (k0 _ ?_ w1 h1))
    unfold pOld
    rw [if_neg z]
end XPA
