section TKI
variable {T : Nat → Nat} {n p : Nat}
theorem nV_4 {T : Nat → Nat} {q : Nat} : ∀ m, m ≤ 4 → (∀ k, k < m → T (q + k) - 48 ≤ 9) → nV T q m < 10 ^ m := by
  intro m
  induction m with
  | zero => intro _ _; exact Nat.one_pos
  | succ m ih =>
    intro hm hk
    have i := ih (by omega) (fun k h => hk k (by omega))
    have j := hk m (by omega)
    rw [nV, Nat.pow_succ]
    omega
theorem tk_cases : tC T n p = 0 ∨ tC T n p = 1 ∨ (tC T n p = 2 ∧ tV T n p ≤ 9999) ∨ (tC T n p = 3 ∧ tW T n p ∉ kwS ∧ (tW T n p).length ≤ 8) ∨ (tC T n p = 4 ∧ tW T n p ∈ kwS ∧ (tW T n p).length ≤ 8 ∧ tV T n p = kwS.idxOf (tW T n p)) ∨ (tC T n p = 5 ∧ tV T n p ∈ sgS) := by
  by_cases h1 : tQ T n p < tL T n p
  · obtain ⟨r1, r2, r3⟩ := tk_w h1
    by_cases h8 : 8 < tL T n p - tQ T n p
    · right; left; rw [r2, if_pos h8]
    · have hl : (tW T n p).length ≤ 8 := by rw [tW_len]; omega
      rw [if_neg h8] at r2
      by_cases hm : tW T n p ∈ kwS
      · rw [if_pos hm] at r2; exact Or.inr (Or.inr (Or.inr (Or.inr (Or.inl ⟨r2, hm, hl, r3⟩))))
      · rw [if_neg hm] at r2; exact Or.inr (Or.inr (Or.inr (Or.inl ⟨r2, hm, hl⟩)))
  · by_cases h2 : tQ T n p < tD T n p
    · obtain ⟨r1, r2, r3⟩ := tk_d h1 h2
      by_cases h4 : 4 < tD T n p - tQ T n p ∨ cL T n (tD T n p) = true
      · right; left; rw [r2, if_pos h4]
      · rw [if_neg h4] at r2
        refine Or.inr (Or.inr (Or.inl ⟨r2, ?_⟩))
        rw [r3]
        have hm : tD T n p - tQ T n p ≤ 4 := by omega
        have := nV_4 (T := T) (q := tQ T n p) (tD T n p - tQ T n p) hm (fun k hk => by
          have h3 : cD T n (tQ T n p + k) = true := rn_in (n - tQ T n p) (tQ T n p) _ (by omega) (by unfold tD at hk; omega)
          have := of_decide_eq_true h3
          omega)
        have b : (10 : Nat) ^ (tD T n p - tQ T n p) ≤ 10 ^ 4 := Nat.pow_le_pow_right (by decide) hm
        omega
    · by_cases h3 : n ≤ tQ T n p
      · left; exact (tk_e h1 h2 h3).2
      · obtain ⟨r1, r2, r3⟩ := tk_s h1 h2 h3
        by_cases hm : T (tQ T n p) ∈ sgS
        · rw [if_pos hm] at r2; exact Or.inr (Or.inr (Or.inr (Or.inr (Or.inr ⟨r2, by rw [r3]; exact hm⟩))))
        · rw [if_neg hm] at r2; exact Or.inr (Or.inl r2)
theorem tC_lt : tC T n p < 6 := by rcases tk_cases (T := T) (n := n) (p := p) with h | h | h | h | h | h <;> omega
theorem tC_2 (h : tC T n p = 2) : tV T n p ≤ 9999 := by rcases tk_cases (T := T) (n := n) (p := p) with h | h | h | h | h | h <;> omega
theorem tC_3 (h : tC T n p = 3) : tW T n p ∉ kwS ∧ (tW T n p).length ≤ 8 := by
  rcases tk_cases (T := T) (n := n) (p := p) with h | h | h | h | h | h <;> first | omega | exact h.2
theorem tC_4 (h : tC T n p = 4) : tW T n p ∈ kwS ∧ (tW T n p).length ≤ 8 ∧ tV T n p = kwS.idxOf (tW T n p) := by
  rcases tk_cases (T := T) (n := n) (p := p) with h | h | h | h | h | h <;> first | omega | exact h.2
theorem tC_5 (h : tC T n p = 5) : tV T n p ∈ sgS := by
  rcases tk_cases (T := T) (n := n) (p := p) with h | h | h | h | h | h <;> first | omega | exact h.2
theorem tV_b (h : tC T n p = 2 ∨ tC T n p = 4 ∨ tC T n p = 5) : tV T n p < 10000 := by
  rcases h with h | h | h
  · have := tC_2 h; omega
  · have := tC_4 h
    rw [this.2.2]
    have := kw_mem.mp this.1
    omega
  · have := sg_lt _ (tC_5 h); omega
end TKI
section XKT
variable {w : pw_W} {T : Nat → Nat} {n p : Nat}
theorem XTk.c (h : XTk T n p w) {x : Nat} {v : Int32} (hv : v = nI x) (hx : x < 6) : pw_I w 17 4 = v ↔ tC T n p = x := by
  subst hv
  rw [h.2.2.1]
  exact nI_eq (by have := tC_lt (T := T) (n := n) (p := p); omega) (by omega)
theorem XTk.kw (h : XTk T n p w) {x : Nat} {v : Int32} (hv : v = nI x) (hx : x < 10000) : pX6_isKeyword w v ↔ tC T n p = 4 ∧ tV T n p = x := by
  subst hv
  unfold pX6_isKeyword
  rw [h.c (x := 4) (v := 4) rfl (by decide)]
  constructor
  · rintro ⟨h1, h2⟩
    refine ⟨h1, ?_⟩
    rw [h.2.2.2.2.2 (Or.inr (Or.inl h1))] at h2
    exact za_eq (by have := tV_b (T := T) (n := n) (p := p) (Or.inr (Or.inl h1)); omega) (by omega) h2
  · rintro ⟨h1, h2⟩
    exact ⟨h1, by rw [h.2.2.2.2.2 (Or.inr (Or.inl h1)), h2]⟩
theorem XTk.sg (h : XTk T n p w) {x : Nat} {v : Int32} (hv : v = nI x) (hx : x < 10000) : pX6_isSign w v ↔ tC T n p = 5 ∧ tV T n p = x := by
  subst hv
  unfold pX6_isSign
  rw [h.c (x := 5) (v := 5) rfl (by decide)]
  constructor
  · rintro ⟨h1, h2⟩
    refine ⟨h1, ?_⟩
    rw [h.2.2.2.2.2 (Or.inr (Or.inr h1))] at h2
    exact za_eq (by have := tV_b (T := T) (n := n) (p := p) (Or.inr (Or.inr h1)); omega) (by omega) h2
  · rintro ⟨h1, h2⟩
    exact ⟨h1, by rw [h.2.2.2.2.2 (Or.inr (Or.inr h1)), h2]⟩
end XKT
/-- what a reading answers: a fault, or what was read -/
abbrev PR (α : Type) : Type := (Nat × Nat) ⊕ α
def pKw (T : Nat → Nat) (n word p : Nat) : PR Nat := if tC T n p = 4 ∧ tV T n p = word then .inr (tE T n p) else .inl (rfu T n p)
def pNb (T : Nat → Nat) (n word lo hi p : Nat) : PR (Nat × Nat) := match pKw T n word p with
  | .inl e => .inl e
  | .inr q => if tC T n q = 2 then (if tV T n q < lo ∨ hi < tV T n q then .inl (4, tQ T n q) else .inr (tE T n q, tV T n q)) else .inl (rfu T n q)
def pEn (T : Nat → Nat) (n p : Nat) : PR Nat := if tC T n p = 5 ∧ tV T n p = 59 then .inr (tE T n p) else .inl (rfu T n p)
section XPA
variable {E : px_E} {d : Nat} {w w0 : pw_W} {Q : Option Value → pw_W → Prop} {t : ct_T} {T : Nat → Nat} {n p : Nat} {D : DS}
theorem tX5_readKeyword {x : Nat} {v : Int32} (hv : v = nI x) (hx : x < 10000) (hS : XS0 t T n w0) (hD : WD D) (hG : XG t T n p D w0 w) (k1 : ∀ q, pKw T n x p = .inr q → ∀ w', XG t T n q D w0 w' → ag [17] w w' → Q (some (.int 1)) w') (k0 : ∀ e, pKw T n x p = .inl e → ∀ w', XBd t T n e w0 w' → Q (some (.int 0)) w') : px_Call E (d + 7) 0 0 mX5_readKeyword [.ref 16, .int v] w Q := by
  refine eX5_readKeyword hG.1 (fun z => ?_) (fun z => ?_) <;> rw [hG.2.2.2.1.kw hv hx] at z
  · refine tX5_adv hS hG (fun w' h' a' => bX5_readKeyword_23 h'.1 (fun z2 => absurd h'.2.2.2.2.1 z2) (fun _ => bX5_readKeyword_35 h'.1 (Or.inr rfl) ?_))
    exact k1 _ (if_pos z) w' h' a'
  · refine tX5_refuse hS hD hG (fun w' h' a' => bX5_readKeyword_15 h'.1 (Or.inl rfl) ?_)
    exact k0 _ (if_neg z) w' h'
theorem tX5_readKeywordB {e : Nat × Nat} {v : Int32} (hS : XS0 t T n w0) (hB : XBd t T n e w0 w) (k : ∀ w', XBd t T n e w0 w' → Q (some (.int 0)) w') : px_Call E (d + 7) 0 0 mX5_readKeyword [.ref 16, .int v] w Q := by
  refine eX5_readKeyword hB.1 (fun z => ?_) (fun z => ?_)
  · exact tX5_advB hS hB (fun w' h' a' => bX5_readKeyword_23 h'.1 (fun _ => bX5_readKeyword_35 h'.1 (Or.inl rfl) (k w' h')) (fun z2 => absurd z2 h'.ne))
  · exact tX5_refuseB hB (bX5_readKeyword_15 hB.1 (Or.inl rfl) (k w hB))
theorem tX5_readNumberBehind {x lo hi : Nat} {v vl vh : Int32} (hv : v = nI x) (hvl : vl = nI lo) (hvh : vh = nI hi) (hx : x < 10000) (hlo : lo < 10000) (hhi : hi < 10000) (hS : XS0 t T n w0) (hD : WD D) (hG : XG t T n p D w0 w) (k1 : ∀ q a, pNb T n x lo hi p = .inr (q, a) → ∀ w', XG t T n q D w0 w' → ag [17] w w' → Q (some (.int (nI a))) w') (k0 : ∀ e, pNb T n x lo hi p = .inl e → ∀ w', XBd t T n e w0 w' → Q (some (.int (-1))) w') : px_Call E (d + 8) 0 0 mX5_readNumberBehind [.ref 16, .int v, .int vl, .int vh] w Q := by
  subst hvl
  subst hvh
  refine eX5_readNumberBehind hG.1 (tX5_readKeyword hv hx hS hD hG (fun q hq w1 h1 a1 => ?_) (fun e he w1 h1 => ?_))
  · have hk := h1.2.2.2.1
    have c2 : pw_I w1 17 4 = 2 ↔ tC T n q = 2 := hk.c rfl (by decide)
    have val : tC T n q = 2 → pw_I w1 17 5 = nI (tV T n q) ∧ tV T n q ≤ 9999 := fun h => ⟨hk.2.2.2.2.2 (Or.inl h), tC_2 h⟩
    have bad : tC T n q = 2 → (tV T n q < lo ∨ hi < tV T n q) → px_W E mX5_readNumberBehind (d + 8) 0 0 50 [.ref 16, .null, .null, .null, .null] [] w1 Q := fun a b => by
      refine bX5_readNumberBehind_50 h1.1 (tX5_setFault (x := 4) hS hD h1 rfl (by decide) (fun w2 h2 _ => bX5_readNumberBehind_55 h2.1 (k0 _ ?_ w2 h2)))
      unfold pNb
      rw [hq]
      exact (if_pos a).trans (if_pos b)
    refine bX5_readNumberBehind_5 h1.1 (fun _ z1 z2 => ?_) (fun _ z1 z2 z3 => ?_) (fun _ z1 z2 z3 => ?_) (fun _ z1 => ?_) (fun z => absurd z (by decide))
    · have z1 := c2.mp z1
      obtain ⟨e1, e2⟩ := val z1
      rw [e1] at z2
      exact bad z1 (Or.inl (za_lt (by omega) (by omega) z2))
    · have z1 := c2.mp z1
      obtain ⟨e1, e2⟩ := val z1
      rw [e1] at z2 z3 ⊢
      have l1 : ¬ tV T n q < lo := fun h => z2 (nI_lt h (by omega))
      have l2 := za_le (by omega) (by omega) z3
      refine tX5_adv hS h1 (fun w2 h2 a2 => bX5_readNumberBehind_74 h2.1 (k1 _ _ ?_ w2 h2 (a1.tr a2)))
      unfold pNb
      rw [hq]
      exact (if_pos z1).trans (if_neg (by omega))
    · have z1 := c2.mp z1
      obtain ⟨e1, e2⟩ := val z1
      rw [e1] at z2 z3
      exact bad z1 (Or.inr (Nat.lt_of_not_le fun h => z3 (nI_le h (by omega))))
    · have z1 : ¬ tC T n q = 2 := fun h => z1 (c2.mpr h)
      refine tX5_refuse hS hD h1 (fun w2 h2 _ => bX5_readNumberBehind_25 h2.1 (k0 _ ?_ w2 h2))
      unfold pNb
      rw [hq]
      exact if_neg z1
  · refine bX5_readNumberBehind_5 h1.1 (fun z => absurd rfl z) (fun z => absurd rfl z) (fun z => absurd rfl z) (fun z => absurd rfl z) (fun _ => k0 e ?_ w1 h1)
    unfold pNb
    rw [he]
theorem tX5_readNumberBehindB {e : Nat × Nat} {v vl vh : Int32} (hS : XS0 t T n w0) (hB : XBd t T n e w0 w) (k : ∀ w', XBd t T n e w0 w' → Q (some (.int (-1))) w') : px_Call E (d + 8) 0 0 mX5_readNumberBehind [.ref 16, .int v, .int vl, .int vh] w Q :=
  eX5_readNumberBehind hB.1 (tX5_readKeywordB hS hB (fun w1 h1 => bX5_readNumberBehind_5 h1.1 (fun z => absurd rfl z) (fun z => absurd rfl z) (fun z => absurd rfl z) (fun z => absurd rfl z) (fun _ => k w1 h1)))
theorem tX5_readLineEnd (hS : XS0 t T n w0) (hD : WD D) (hG : XG t T n p D w0 w) (k1 : ∀ q, pEn T n p = .inr q → ∀ w', XG t T n q D w0 w' → Q (some (.int 1)) w') (k0 : ∀ e, pEn T n p = .inl e → ∀ w', XBd t T n e w0 w' → Q (some (.int 0)) w') : px_Call E (d + 7) 0 0 mX5_readLineEnd [.ref 16] w Q := by
  refine eX5_readLineEnd hG.1 (fun z => ?_) (fun z => ?_) <;> rw [hG.2.2.2.1.sg (x := 59) (v := 59) rfl (by decide)] at z
  · refine tX5_adv hS hG (fun w' h' a' => bX5_readLineEnd_24 h'.1 (fun z2 => absurd h'.2.2.2.2.1 z2) (fun _ => bX5_readLineEnd_36 h'.1 (Or.inr rfl) ?_))
    exact k1 _ (if_pos z) w' h'
  · refine tX5_refuse hS hD hG (fun w' h' a' => bX5_readLineEnd_16 h'.1 (Or.inl rfl) ?_)
    exact k0 _ (if_neg z) w' h'
theorem tX5_readLineEndB {e : Nat × Nat} (hS : XS0 t T n w0) (hB : XBd t T n e w0 w) (k : ∀ w', XBd t T n e w0 w' → Q (some (.int 0)) w') : px_Call E (d + 7) 0 0 mX5_readLineEnd [.ref 16] w Q := by
  refine eX5_readLineEnd hB.1 (fun z => ?_) (fun z => ?_)
  · exact tX5_advB hS hB (fun w' h' a' => bX5_readLineEnd_24 h'.1 (fun _ => bX5_readLineEnd_36 h'.1 (Or.inl rfl) (k w' h')) (fun z2 => absurd z2 h'.ne))
  · exact tX5_refuseB hB (bX5_readLineEnd_16 hB.1 (Or.inl rfl) (k w hB))
end XPA
