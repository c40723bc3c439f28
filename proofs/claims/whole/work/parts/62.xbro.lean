/-! the class reads a BROTHER -/
def b6 (x : Nat) : Nat := (List.range 6).countP (fun i => x.testBit i)
theorem b6_up : ∀ x, x < 64 → ∀ a, a < 6 → x.testBit a = false → b6 (x ||| 2 ^ a) = b6 x + 1 ∧ x ||| 2 ^ a < 64 := by decide +kernel
theorem b6_full : ∀ x, x < 64 → 6 ≤ b6 x → x = 63 := by decide +kernel
theorem b6_63 : ∀ a, a < 6 → (63 : Nat).testBit a = true := by decide
def pRo (T : Nat → Nat) (n : Nat) (f : Nat → List Nat) (k : Nat) : Nat → Nat → (Nat → Nat) → Nat → Nat → PR (Nat × (Nat → Nat) × Nat)
  | 0, _, _, _, p => .inl (rfu T n p)
  | m + 1, x, ro, s, p => pB (pOld T n f k x p) (fun a => if tC T n a.1 = 3 then pRo T n f k m (x ||| 2 ^ a.2) (uN ro s a.2) (s + 1) a.1 else .inr (a.1, uN ro s a.2, s + 1))
def hB (h : aH) (c : Nat) (ro : Nat → Nat) (s : Nat) : aH := (fun x => match x with
  | 0 => uN (h.1 0) 2 (aNb h + 1)
  | 7 => uN (h.1 7) (aNb h) c
  | 8 => uN (h.1 8) (aNb h) s
  | 9 => fun i => if 6 * aNb h ≤ i then ro (i - 6 * aNb h) else h.1 9 i
  | x => h.1 x, h.2)
def dBro (D : DS) (l : List Nat) (c : Nat) (ro : Nat → Nat) (s : Nat) : DS := (hB (dH D) c ro s, dP D, uN (dB D) (aNb (dH D)) l, dO D, dK D, aNb (dH D) + 1, 0)
def pBro (T : Nat → Nat) (n : Nat) (D : DS) (p : Nat) : PR (Nat × DS) :=
  if aNb (dH D) < 2 then pB (pNew T n (dB D) (aNb (dH D)) (tE T n p)) (fun q => pB (pNb T n 7 1 20 q) (fun a => pB (pKw T n 8 a.1) (fun r => pB (pRo T n (dP D) (aNp (dH D)) 7 0 (fun _ => 0) 0 r) (fun z => pB (pEn T n z.1) (fun e => .inr (e, dBro D (tW T n (tE T n p)) a.2 z.2.1 z.2.2)))))) else .inl (rfu T n p)
/-- a round so far: its PEOPLE, all of them marked, none twice -/
def roOK (k x : Nat) (ro : Nat → Nat) (s : Nat) : Prop := x < 64 ∧ b6 x = s ∧ (∀ i, i < s → ro i < k ∧ x.testBit (ro i) = true) ∧ ∀ i j, i < s → j < s → ro i = ro j → i = j
theorem roOK.up {k x : Nat} {ro : Nat → Nat} {s a : Nat} (h : roOK k x ro s) (hk : k ≤ 6) (ha : a < k) (hx : x.testBit a = false) : roOK k (x ||| 2 ^ a) (uN ro s a) (s + 1) := by
  obtain ⟨h1, h2, h3, h4⟩ := h
  obtain ⟨u1, u2⟩ := b6_up x h1 a (by omega) hx
  refine ⟨u2, by rw [u1, h2], fun i hi => ?_, fun i j hi hj e => ?_⟩
  · by_cases q : i = s
    · rw [q, uN_s, Nat.testBit_or, Nat.testBit_two_pow_self]; exact ⟨ha, Bool.or_true _⟩
    · rw [uN_o q, Nat.testBit_or, (h3 i (by omega)).2]; exact ⟨(h3 i (by omega)).1, Bool.true_or _⟩
  · by_cases q : i = s
    · by_cases q2 : j = s
      · omega
      · rw [q, uN_s, uN_o q2] at e
        have := (h3 j (by omega)).2
        rw [← e, hx] at this
        cases this
    · by_cases q2 : j = s
      · rw [q2, uN_s, uN_o q] at e
        have := (h3 i (by omega)).2
        rw [e, hx] at this
        cases this
      · rw [uN_o q, uN_o q2] at e
        exact h4 i j (by omega) (by omega) e
theorem RXH.addB {h : aH} {w : pw_W} {r c s : Nat} {ro : Nat → Nat} (hH : RXD h 1 w r) (h1 : pw_I w (r + 7) (aNb h) = nI c) (h2 : pw_I w (r + 8) (aNb h) = nI s) (h3 : ∀ i, i < s → pw_I w (r + 9) (6 * aNb h + i) = nI (ro i)) (hs : ∀ b, b < aNb h → aRs h b ≤ 6) : RXH (hB h c ro s) w r := by
  obtain ⟨hH, h8⟩ := hH
  obtain ⟨⟨a0, a1, a2, a3, a4, a5⟩, b1, b2, b3, b4, b5, b6, b7⟩ := hH
  have o : ∀ a b, (a = r → b ≠ 8) → pw_I (pw_sI w r 8 (nI (aNb h))) a b = pw_I w a b := fun a b z => pw_oth (fun q1 q2 => z q1 q2)
  refine ⟨⟨?_, ?_, h8, ?_, ?_, ?_⟩, fun i hi => ?_, fun i hi => ?_, fun i hi => ?_, fun b hb k hk => ?_, ?_, ?_, fun i hi => ?_⟩
  · rw [o _ _ (fun _ => by decide)] at a0; exact a0
  · rw [o _ _ (fun _ => by decide)] at a1; exact a1
  · rw [o _ _ (fun _ => by decide)] at a3; exact a3
  · rw [o _ _ (fun _ => by decide)] at a4; exact a4
  · rw [o _ _ (fun _ => by decide)] at a5; exact a5
  · have := b1 i hi; rw [o _ _ (by omega), o _ _ (by omega), o _ _ (by omega)] at this; exact this
  · have := b2 i hi; rw [o _ _ (by omega), o _ _ (by omega), o _ _ (by omega)] at this; exact this
  · have hi : i < aNb h + 1 := hi
    show pw_I w (r + 7) i = nI (uN (aCo h) (aNb h) c i) ∧ pw_I w (r + 8) i = nI (uN (aRs h) (aNb h) s i)
    by_cases e : i = aNb h
    · rw [e, uN_s, uN_s]; exact ⟨h1, h2⟩
    · rw [uN_o e, uN_o e]
      have := b3 i (by omega); rw [o _ _ (by omega), o _ _ (by omega)] at this; exact this
  · have hb : b < aNb h + 1 := hb
    have hk : k < uN (aRs h) (aNb h) s b := hk
    show pw_I w (r + 9) (6 * b + k) = nI (if 6 * aNb h ≤ 6 * b + k then ro (6 * b + k - 6 * aNb h) else aRo h (6 * b + k))
    by_cases e : b = aNb h
    · rw [e, uN_s] at hk
      rw [e, if_pos (by omega), show 6 * aNb h + k - 6 * aNb h = k by omega]
      exact h3 k hk
    · rw [uN_o e] at hk
      have := hs b (by omega)
      rw [if_neg (by omega)]
      have := b4 b (by omega) k hk
      rw [o _ _ (by omega)] at this
      exact this
  · rw [o _ _ (by omega)] at b5; exact b5
  · rw [o _ _ (by omega)] at b6; exact b6
  · have := b7 i hi; rw [o _ _ (by omega)] at this; exact this
section XPA
variable {E : px_E} {d : Nat} {w w0 : pw_W} {Q : Option Value → pw_W → Prop} {t : ct_T} {T : Nat → Nat} {n p : Nat} {D : DS}
theorem xRoL (hS : XS0 t T n w0) (hD : WD D) (hb2 : aNb (dH D) < 2) {c : Nat} (k1 : ∀ q ro s, pRo T n (dP D) (aNp (dH D)) 7 0 (fun _ => 0) 0 p = .inr (q, ro, s) → (∃ x, roOK (aNp (dH D)) x ro s) → 1 ≤ s → s ≤ 6 → ∀ w', XG t T n q D w0 w' → pw_I w' (t.2.1 + 7) (aNb (dH D)) = nI c → pw_I w' (t.2.1 + 8) (aNb (dH D)) = nI s → (∀ i, i < s → pw_I w' (t.2.1 + 9) (6 * aNb (dH D) + i) = nI (ro i)) → Q (some (.int 1)) w') (k0 : ∀ e, pRo T n (dP D) (aNp (dH D)) 7 0 (fun _ => 0) 0 p = .inl e → ∀ w', XBd t T n e w0 w' → Q (some (.int 0)) w') :
    ∀ (m x : Nat) (ro : Nat → Nat) (s q : Nat) (w : pw_W), s + m = 7 → roOK (aNp (dH D)) x ro s → pRo T n (dP D) (aNp (dH D)) 7 0 (fun _ => 0) 0 p = pRo T n (dP D) (aNp (dH D)) m x ro s q → XG t T n q D w0 w → pw_I w (t.2.1 + 7) (aNb (dH D)) = nI c → (∀ i, i < s → pw_I w (t.2.1 + 9) (6 * aNb (dH D) + i) = nI (ro i)) → px_W E mX5_readRound (d + 8) 0 0 4 [.ref 16, .int (nI (aNb (dH D))), .int (nI x), .int (nI s), .null] [] w Q := by
  have ht := hS.2.1
  have n6 := hD.1.1
  intro m
  induction m with
  | zero =>
    intro x ro s q w e hr
    have := hr.1
    have h2 := hr.2.1
    have : b6 x ≤ 6 := by unfold b6; exact List.countP_le_length
    omega
  | succ m ih =>
    intro x ro s q w e hr hP hG F7 F9
    have hx := hr.1
    refine bX5_readRound_4 hG.1 ht (tX5_old (taken := x) rfl hx hS hD hG (fun q2 a h2 w2 g2 a2 => ?_) (fun e he w2 b2 => ?_))
    · obtain ⟨ha, hxa⟩ := pOld_r h2
      have hs6 : s < 6 := by
        rcases Nat.lt_or_ge s 6 with h | h
        · exact h
        · have e63 := b6_full x hx (by rw [hr.2.1]; exact h)
          rw [e63, b6_63 a (by omega)] at hxa
          cases hxa
      have P1 := hP.trans (pB_r h2)
      have hr2 := hr.up n6 ha hxa
      refine bX5_readRound_9 g2.1 ht (fun z => absurd z (nI_mn (by omega))) (fun _ _ => ?_) (fun _ z => absurd (nI_lt (b := 6) hs6 (by decide)) z)
      have nn7 := dX_ne ht (c := 7) (by decide)
      have nn9 := dX_ne ht (c := 9) (by decide)
      have g3 : XG t T n q2 D w0 (pw_sI w2 (t.2.1 + 9) (6 * aNb (dH D) + s) (nI a)) := by
        refine g2.st ht (by decide) (RXD.st g2.2.2.2.2.2.2.1 (by omega) (fun q => by omega) (fun q => by omega) (fun q => by omega) (fun _ b hb j hj => ?_) (by omega) (by omega)) rfl rfl rfl rfl rfl
        have := (hD.1.2.2.2.2.2.2.2.2.2.1 b hb).2.2
        omega
      have F7' : pw_I (pw_sI w2 (t.2.1 + 9) (6 * aNb (dH D) + s) (nI a)) (t.2.1 + 7) (aNb (dH D)) = nI c := by
        rw [pw_oth (by omega), a2.I (fun z => nn7.2.1 (List.mem_singleton.mp z))]; exact F7
      have F9' : ∀ i, i < s + 1 → pw_I (pw_sI w2 (t.2.1 + 9) (6 * aNb (dH D) + s) (nI a)) (t.2.1 + 9) (6 * aNb (dH D) + i) = nI (uN ro s a i) := fun i hi => by
        by_cases q : i = s
        · rw [q, pw_same, uN_s]
        · rw [pw_oth (by omega), uN_o q, a2.I (fun z => nn9.2.1 (List.mem_singleton.mp z))]; exact F9 i (by omega)
      refine bX5_readRound_25 g2.1 ht (6 * aNb (dH D) + s) ?_ (by omega) (fun z => ?_) (fun z => ?_)
      · have : nI (aNb (dH D)) * 6 = nI (aNb (dH D) * 6) := pk_mul _ 6
        rw [this, nI_add, Nat.mul_comm]
      · rw [g3.2.2.2.1.c (x := 3) (v := 3) rfl (by decide)] at z
        rw [za_bit1 (by omega), za_or, ← nI_succ]
        exact ih (x ||| 2 ^ a) (uN ro s a) (s + 1) q2 _ (by omega) hr2 (P1.trans (if_pos z)) g3 F7' F9'
      · rw [g3.2.2.2.1.c (x := 3) (v := 3) rfl (by decide)] at z
        refine bX5_readRound_62 g3.1 ht _ rfl hb2 ?_
        rw [← nI_succ]
        refine k1 q2 (uN ro s a) (s + 1) (P1.trans (if_neg z)) ⟨_, hr2⟩ (by omega) (by omega) _ (g3.st ht (by decide) (RXD.st g3.2.2.2.2.2.2.1 (by omega) (fun q => by omega) (fun q => by omega) (fun _ => Nat.le_refl _) (fun q => by omega) (by omega) (by omega)) rfl rfl rfl rfl rfl) ?_ pw_same (fun i hi => ?_)
        · rw [pw_oth (by omega)]; exact F7'
        · rw [pw_oth (by omega)]; exact F9' i hi
    · exact bX5_readRound_9 b2.1 ht (fun _ => bX5_readRound_23 b2.1 ht (k0 e (hP.trans (pB_l he)) w2 b2)) (fun z => absurd rfl z) (fun z => absurd rfl z)
end XPA
