/-! the class reads a text -/
def aH0 : aH := (fun x y => if x = 0 ∧ y = 3 then 40 else 0, fDef)
def D0 : DS := (aH0, fun _ => [], fun _ => [], 0, 0, 0, 0)
theorem WD_0 : WD D0 := by
  refine ⟨⟨by decide, by decide, by decide, by decide, by decide, by decide, by decide, fun i hi => absurd hi (Nat.not_lt_zero i), fun i hi => absurd hi (Nat.not_lt_zero i), fun i hi => absurd hi (Nat.not_lt_zero i), fun i hi => absurd hi (Nat.not_lt_zero i), fun i hi => absurd hi (Nat.not_lt_zero i), by decide, by decide⟩, ⟨⟨fun i hi => absurd hi (Nat.not_lt_zero i), fun i j hi => absurd hi (Nat.not_lt_zero i)⟩, by decide, by decide⟩, ⟨⟨fun i hi => absurd hi (Nat.not_lt_zero i), fun i j hi => absurd hi (Nat.not_lt_zero i)⟩, by decide, by decide⟩, by decide⟩
def pAll (T : Nat → Nat) (n : Nat) : Nat → DS → Nat → PR DS
  | 0, D, _ => .inr D
  | m + 1, D, p => if tC T n p = 0 then .inr D else pB (pLine T n D p) (fun z => pAll T n m z.2 z.1)
section XRD
variable {E : px_E} {d : Nat} {w w0 : pw_W} {Q : Option Value → pw_W → Prop} {t : ct_T} {T : Nat → Nat} {n p : Nat} {D : DS}
theorem tX1_addN {r j : Nat} {v : Int32} (hw : w.1 = cs t) (hr : is_Formula r) (hj : j < 270) (h : pw_I w r 2 = nI j) (k : Q none (pw_sI (pw_sI w (r + 1) j v) r 2 (nI (j + 1)))) : px_Call E (d + 1) 0 0 mX1_add [.ref r, .int v] w Q := by
  refine eX1_add hw hr (fun z => ?_) (fun _ => ?_)
  · rw [h] at z; exact absurd z (nI_ge (b := 270) hj (by decide))
  · refine bX1_add_10 hw hr j h hj (bX1_add_30 (hI (hI hw)) hr ?_)
    rw [pw_oth (by omega), h, ← nI_succ]
    exact k
theorem tX1_setUntold {r : Nat} (hw : w.1 = cs t) (hr : is_Formula r) (k : ∀ w', w'.1 = cs t → ag [r, r + 1] w w' → pw_I w' r 2 = nI 3 → pw_I w' r 3 = 0 → (∀ i, i < 3 → pw_I w' (r + 1) i = fDef.getD i 0) → Q none w') : px_Call E (d + 2) 0 0 mX1_setUntold [.ref r] w Q := by
  refine eX1_setUntold hw hr (eX1_clear hw hr (bX1_clear_10 (hI (hI hw)) hr ?_))
  refine bX1_setUntold_4 (hI (hI hw)) hr (tX1_addN (j := 0) (hI (hI hw)) hr (by decide) (by rw [pw_oth (by omega), pw_same]; rfl) ?_)
  refine bX1_setUntold_10 (hI (hI (hI (hI hw)))) hr (tX1_addN (j := 1) (hI (hI (hI (hI hw)))) hr (by decide) pw_same ?_)
  refine bX1_setUntold_15 (hI (hI (hI (hI (hI (hI hw)))))) hr (tX1_addN (j := 2) (hI (hI (hI (hI (hI (hI hw)))))) hr (by decide) pw_same ?_)
  refine bX1_setUntold_21 (hI (hI (hI (hI (hI (hI (hI (hI hw)))))))) hr (k _ (hI (hI (hI (hI (hI (hI (hI (hI hw)))))))) ?_ pw_same ?_ (fun i hi => ?_))
  · have a : ∀ {w : pw_W} {j b : Nat} {v : Int32} {c : Nat}, c = r ∨ c = r + 1 → ag [r, r + 1] w (pw_sI w c b v) := fun h => ag.sI (by rcases h with h | h <;> rw [h] <;> simp)
    exact (a (j := 0) (Or.inl rfl)).tr ((a (j := 0) (Or.inl rfl)).tr ((a (j := 0) (Or.inr rfl)).tr ((a (j := 0) (Or.inl rfl)).tr ((a (j := 0) (Or.inr rfl)).tr ((a (j := 0) (Or.inl rfl)).tr ((a (j := 0) (Or.inr rfl)).tr (a (j := 0) (Or.inl rfl))))))))
  · rw [pw_oth (by omega), pw_oth (by omega), pw_oth (by omega), pw_oth (by omega), pw_oth (by omega), pw_oth (by omega), pw_same]
  · rcases i with _ | _ | _ | i
    · rw [pw_oth (by omega), pw_oth (by omega), pw_oth (by omega), pw_oth (by omega), pw_oth (by omega), pw_same]; rfl
    · rw [pw_oth (by omega), pw_oth (by omega), pw_oth (by omega), pw_same]; rfl
    · rw [pw_oth (by omega), pw_same]; rfl
    · omega
theorem tX2_clear {r : Nat} (hw : w.1 = cs t) (hr : is_Hamlet r) (k : ∀ w', w'.1 = cs t → ag [r, r + 10, r + 11] w w' → RXH aH0 w' r → Q none w') : px_Call E (d + 3) 0 0 mX2_clear [.ref r] w Q := by
  have hf : is_Formula (r + 10) := by
    rcases hr with e | e <;> rw [e]
    · exact Or.inl rfl
    · exact Or.inr rfl
  refine eX2_clear hw hr (bX2_clear_10 (hI (hI hw)) hr (bX2_clear_21 (hI (hI (hI (hI hw)))) hr (bX2_clear_31 (hI (hI (hI (hI (hI (hI hw)))))) hr (tX1_setUntold (hI (hI (hI (hI (hI (hI hw)))))) hf (fun w' hw' a' e2 e3 e4 => bX2_clear_38 hw' hr (k w' hw' ?_ ?_))))))
  · have s : ∀ {w : pw_W} {b : Nat} {v : Int32}, ag [r, r + 10, r + 11] w (pw_sI w r b v) := ag.sI (by simp)
    exact s.tr (s.tr (s.tr (s.tr (s.tr (s.tr (a'.mono (fun a h => by simp at h ⊢; omega)))))))
  · have n0 : r ∉ [r + 10, r + 10 + 1] := fun z => by simp at z; omega
    refine ⟨⟨?_, ?_, ?_, ?_, ?_, ?_⟩, fun i hi => absurd hi (Nat.not_lt_zero i), fun i hi => absurd hi (Nat.not_lt_zero i), fun i hi => absurd hi (Nat.not_lt_zero i), fun i hi => absurd hi (Nat.not_lt_zero i), e2, e3, fun i hi => e4 i hi⟩
    · rw [a'.I n0, pw_oth (by omega), pw_oth (by omega), pw_oth (by omega), pw_oth (by omega), pw_oth (by omega), pw_same]; rfl
    · rw [a'.I n0, pw_oth (by omega), pw_oth (by omega), pw_oth (by omega), pw_oth (by omega), pw_same]; rfl
    · rw [a'.I n0, pw_oth (by omega), pw_oth (by omega), pw_oth (by omega), pw_same]; rfl
    · rw [a'.I n0, pw_oth (by omega), pw_oth (by omega), pw_same]; rfl
    · rw [a'.I n0, pw_oth (by omega), pw_same]; rfl
    · rw [a'.I n0, pw_same]; rfl
theorem xAll {R : PR DS} (hS : XS0 t T n w0) (k1 : ∀ D', R = .inr D' → WD D' → dF D' = 0 → ∀ q w', XG t T n q D' w0 w' → Q (some (.int 1)) w') (k0 : ∀ e, R = .inl e → ∀ w', XBd t T n e w0 w' → Q (some (.int 0)) w') :
    ∀ (m i : Nat) (D : DS) (p : Nat) (w : pw_W), n - p < m → i ≤ p → WD D → dF D = 0 → XG t T n p D w0 w → R = pAll T n m D p → px_W E mX5_read (d + 112) 0 0 33 [.ref 16, .null, .null, .int (nI i)] [] w Q := by
  have ht := hS.2.1
  have hn := hS.2.2.2.1
  intro m
  induction m with
  | zero => intro i D p w h; omega
  | succ m ih =>
    intro i D p w hm hi hD hF hG hR
    have hp := hG.2.2.1
    have c0 : pw_I w 17 4 = 0 ↔ tC T n p = 0 := hG.2.2.2.1.c rfl (by decide)
    rw [pAll] at hR
    refine bX5_read_33 (r1 := 2) hG.1 ht (fun z => absurd z (nI_nlt (a := 1600) (by omega) (by decide))) (fun _ z => ?_) (fun _ z => ?_) <;> rw [c0] at z
    · rw [if_pos z] at hR
      exact bX5_read_65 (r1 := 2) hG.1 ht (k1 D hR hD hF p w hG)
    · rw [if_neg z] at hR
      refine tX5_readLine hS hD hF hG (fun q D' h w1 g1 => ?_) (fun e h w1 b1 => ?_)
      · obtain ⟨a1, a2, a3, a4⟩ := pLine_m hD hF hp h
        rw [h, pB_R] at hR
        refine bX5_read_54 (r1 := 2) g1.1 ht (fun _ => ?_) (fun y => absurd y (by decide))
        rw [← nI_succ]
        exact ih (i + 1) D' q w1 (by omega) (by omega) a1 a2 g1 hR
      · rw [h, pB_L] at hR
        exact bX5_read_54 (r1 := 2) b1.1 ht (fun y => absurd rfl y) (fun _ => k0 e hR w1 b1)
end XRD
