/-! the reference: peace, rounds, evenings, duel, what fits -/
theorem m1_nI : (-1 : Int32) = nI 4294967295 := by decide
theorem may_bit (n B i : Nat) (hB : B < 512) (hn : n ≤ 9) : ((2 ^ n - 1) &&& (B ^^^ 4294967295)).testBit i = (decide (i < n) && !B.testBit i) := by
  rw [Nat.testBit_and, Nat.testBit_two_pow_sub_one, Nat.testBit_xor, show (4294967295 : Nat) = 2 ^ 32 - 1 from rfl, Nat.testBit_two_pow_sub_one]
  by_cases h : i < n
  · simp [h, show i < 32 by omega]
  · simp [h]
theorem may_sub {n B q : Nat} (hB : B < 512) (hn : n ≤ 9) (hq : q < 2 ^ n) : q &&& (((2 ^ n - 1) &&& (B ^^^ 4294967295)) ^^^ 4294967295) = 0 ↔ q &&& B = 0 := by
  have b32 : ∀ i, i < n → (4294967295 : Nat).testBit i = true := fun i hi => by
    rw [show (4294967295 : Nat) = 2 ^ 32 - 1 from rfl, Nat.testBit_two_pow_sub_one]
    simp; omega
  have q0 : ∀ i, ¬ i < n → q.testBit i = false := fun i hi => Nat.testBit_lt_two_pow (Nat.lt_of_lt_of_le hq (Nat.pow_le_pow_right (by decide) (by omega)))
  have key : ∀ i, (q &&& (((2 ^ n - 1) &&& (B ^^^ 4294967295)) ^^^ 4294967295)).testBit i = (q &&& B).testBit i := fun i => by
    rw [Nat.testBit_and, Nat.testBit_and, Nat.testBit_xor, may_bit n B i hB hn]
    by_cases h : i < n
    · rw [b32 i h]; simp [h]
    · rw [q0 i h]; rfl
  rw [Nat.eq_of_testBit_eq key]
theorem may_le {n B q : Nat} (hB : B < 512) (hn : n ≤ 9) (hq : q < 2 ^ n) (h : q &&& B = 0) : q ≤ (2 ^ n - 1) &&& (B ^^^ 4294967295) := by
  have : q = q &&& ((2 ^ n - 1) &&& (B ^^^ 4294967295)) := by
    apply Nat.eq_of_testBit_eq
    intro i
    rw [Nat.testBit_and, may_bit n B i hB hn]
    have h0 : (q &&& B).testBit i = false := by rw [h]; exact Nat.zero_testBit i
    rw [Nat.testBit_and] at h0
    by_cases hi : i < n
    · cases hb : q.testBit i with
      | false => rfl
      | true => rw [hb] at h0; simp at h0; simp [hi, h0]
    · rw [Nat.testBit_lt_two_pow (Nat.lt_of_lt_of_le hq (Nat.pow_le_pow_right (by decide) (by omega)))]
      rfl
  rw [this]
  exact Nat.and_le_right
section MP
variable {E : px_E} {d : Nat} {w : pw_W} {Q : Option Value → pw_W → Prop} {t : ct_T} {g : GG}
theorem tX10_peace {x y : Int32} (hw : w.1 = cs t) (hg : WG g) (hR : RM g w) (k0 : ¬ (V 15 x ∧ z1 y) → Q (some (.int (-1))) w) (k1 : V 15 x → z1 y → ∀ w' v, RM g w' → agM w w' → aPeA (gH g) (gS g) (N x) v → Q (some (.int (fPe v y))) w') : px_Call E (d + 20) 0 0 mX10_peace [.ref 61, .int x, .int y] w Q := by
  have np := hg.1.1
  have nm := hg.1.2.1
  have hd := hg.s.2
  have hB := hg.s.1.2.1
  have m2 : 2 ^ aNm (gH g) ≤ 512 := Nat.pow_le_pow_right (n := 2) (j := 9) (by decide) nm
  have mp : 0 < 2 ^ aNm (gH g) := Nat.two_pow_pos _
  have no : ¬ (V 15 x ∧ z1 y) → px_W E mX10_peace (d + 20) 0 0 19 [.null, .null, .null, .null, .null, .null] [] w Q := fun q => bX10_peace_19 hw (k0 q)
  refine eX10_peace hw (fun a => no (fun q => a ((isI (n := 14) (by decide) x).mpr q.1))) (fun a b => bX10_peace_21 hw ?_) (fun a b => no (fun q => b ((isI1 y).mpr q.2)))
  have va := (isI (n := 14) (by decide) x).mp a
  have k1 := k1 va ((isI1 y).mp b)
  obtain ⟨n, hn, rfl, en⟩ := V_of (by decide) va
  rw [en] at k1
  have eM : (js_shl 1 (pw_I w 61 52) - 1) &&& (pw_I w 89 12 ^^^ -1) = nI ((2 ^ aNm (gH g) - 1) &&& (sB (gS g) ^^^ 4294967295)) := by
    rw [hR.1.1.2.1, hR.2.1.2.2.1, za_bit1 (by omega), m1_nI, za_xor, show nI (2 ^ aNm (gH g)) - 1 = nI (2 ^ aNm (gH g) - 1) from pk_sub (b := 1) mp, za_and]
  rw [eM]
  have ml : (2 ^ aNm (gH g) - 1) &&& (sB (gS g) ^^^ 4294967295) ≤ 2 ^ aNm (gH g) - 1 := Nat.and_le_left
  have top := @may_le (aNm (gH g)) (sB (gS g))
  have sub := @may_sub (aNm (gH g)) (sB (gS g))
  generalize (2 ^ aNm (gH g) - 1) &&& (sB (gS g) ^^^ 4294967295) = M at ml top sub
  have key : ∀ j, j ≤ M + 1 → ∀ w2 (v : Int32), w2.1 = cs t → RM g w2 → ag [69, 70, 90] w w2 → ((v = -1 ∧ ∀ q, q < j → ¬ aPeP (gH g) (gS g) n q) ∨ (∃ r, v = nI r ∧ r < j ∧ aPeP (gH g) (gS g) n r ∧ ∀ q, q < j → aPeP (gH g) (gS g) n q → aPc r < aPc q ∨ (aPc r = aPc q ∧ r ≤ q))) → px_W E mX10_peace (d + 20) 0 0 46 [.ref 61, .int (nI n), .int y, .int (nI M), .int v, .int (nI j)] [] w2 Q := by
    refine za_up _ _ (fun j hj ih => ?_)
    intro w2 v hw2 R2 a2 I2
    have done : ¬ j ≤ M → aPeA (gH g) (gS g) n v := by
      intro z
      rcases I2 with ⟨h1, h2⟩ | ⟨r, h1, h2, h3, h4⟩
      · exact Or.inr ⟨h1, fun q hq u => h2 q (by have := top hB nm hq u.1; omega) u⟩
      · exact Or.inl ⟨r, h1, by omega, h3, fun q hq u => h4 q (by have := top hB nm hq u.1; omega) u⟩
    have fin : ∀ u, ¬ j ≤ M → fPe v y = u → px_W E mX10_peace (d + 20) 0 0 147 [.null, .null, .null, .null, .null, .null] [.int u] w2 Q := by
      intro u z e
      have kk := k1 w2 v R2 (a2.m (by decide)) (done z)
      rw [e] at kk
      exact bX10_peace_147 hw2 kk
    have neg : 0 ≤ v → ¬ v = -1 := fun z e => by rw [e] at z; exact absurd z (by decide)
    have s118 : j ≤ M → ∀ w3 v', w3.1 = cs t → RM g w3 → ag [69, 70, 90] w w3 → ((v' = -1 ∧ ∀ q, q < j + 1 → ¬ aPeP (gH g) (gS g) n q) ∨ (∃ r, v' = nI r ∧ r < j + 1 ∧ aPeP (gH g) (gS g) n r ∧ ∀ q, q < j + 1 → aPeP (gH g) (gS g) n q → aPc r < aPc q ∨ (aPc r = aPc q ∧ r ≤ q))) → px_W E mX10_peace (d + 20) 0 0 118 [.ref 61, .int (nI n), .int y, .int (nI M), .int v', .int (nI j)] [] w3 Q := by
      intro jl w3 v' hw3 R3 a3 I3
      refine bX10_peace_118 hw3 ?_
      rw [nI_1]
      exact ih (by omega) w3 v' hw3 R3 a3 I3
    have skip : j ≤ M → ¬ (aPeP (gH g) (gS g) n j ∧ ∀ r, v = nI r → r < j → ¬ aPc r ≤ aPc j) → ∀ w3, w3.1 = cs t → RM g w3 → ag [69, 70, 90] w w3 → px_W E mX10_peace (d + 20) 0 0 118 [.ref 61, .int (nI n), .int y, .int (nI M), .int v, .int (nI j)] [] w3 Q := by
      intro jl z w3 hw3 R3 a3
      refine s118 jl w3 v hw3 R3 a3 ?_
      rcases I2 with ⟨h1, h2⟩ | ⟨r, h1, h2, h3, h4⟩
      · refine Or.inl ⟨h1, fun q hq u => ?_⟩
        by_cases e : q = j
        · subst e
          exact z ⟨u, fun r hr hlt => by rw [h1] at hr; exact absurd hr.symm (nI_m1 (by omega))⟩
        · exact h2 q (by omega) u
      · refine Or.inr ⟨r, h1, by omega, h3, fun q hq u => ?_⟩
        by_cases e : q = j
        · subst e
          by_cases c : aPc r ≤ aPc q
          · rcases Nat.lt_or_ge (aPc r) (aPc q) with c2 | c2
            · exact Or.inl c2
            · exact Or.inr ⟨by omega, by omega⟩
          · exact absurd ⟨u, fun r' hr' hlt => by rw [h1] at hr'; rw [← za_eq (by omega) (by omega) hr']; exact c⟩ z
        · exact h4 q (by omega) u
    have test : j ≤ M → j &&& sB (gS g) = 0 → (∀ r, v = nI r → r < j → ¬ aPc r ≤ aPc j) → px_W E mX10_peace (d + 20) 0 0 82 [.ref 61, .int (nI n), .int y, .int (nI M), .int v, .int (nI j)] [] w2 Q := by
      intro jl hz hbest
      refine bX10_peace_82 hw2 (RM.fill hw2 hg R2 (fun w3 hw3 R3 a3 S3 => bX10_peace_86 hw3 ?_))
      rw [S3.2.2.1, za_or, R3.1.1.1, za_bit1 (by omega), show nI (2 ^ aNp (gH g)) - 1 = nI (2 ^ aNp (gH g) - 1) from pk_sub (b := 1) (Nat.two_pow_pos _)]
      have A4 : ag [69, 70, 90] w3 (pw_sI w3 90 12 (nI (sB (gS g) ||| j))) := ag.sI (by decide)
      refine RM.peaceful (s := sSetB (gS g) (sB (gS g) ||| j)) (hI hw3) hg (R3.scr hg A4 (by decide)) (S3.setB np rfl) (hg.s.1.setB (Nat.or_lt_two_pow (n := 9) hB (by omega))) (show sD (gS g) + n + 1 < 5000 by omega) (fun w5 hw5 R5 a5 => ?_)
      have A5 := a2.tr (a3.tr (A4.tr a5))
      refine bX10_peace_111 hw5 (fun u => ?_) (fun u => ?_)
      · exact skip jl (fun q => jb_eq0.mp u q.1.2) w5 hw5 R5 A5
      · have u := Classical.not_not.mp (fun q => u (jb_eq0.mpr q))
        refine s118 jl w5 _ hw5 R5 A5 (Or.inr ⟨j, rfl, by omega, ⟨hz, u⟩, fun q hq p => ?_⟩)
        by_cases e : q = j
        · subst e; exact Or.inr ⟨rfl, Nat.le_refl _⟩
        · rcases I2 with ⟨h1, h2⟩ | ⟨r, h1, h2, h3, h4⟩
          · exact absurd p (h2 q (by omega))
          · have := hbest r h1 h2
            have := h4 q (by omega) p
            left
            omega
    refine bX10_peace_46 hw2 (fun q u z => ?_) (fun q u z => ?_) (fun q u => ?_) (fun q u => ?_) (fun q u z => ?_) (fun q u z => ?_)
    · have q := za_lt (by omega) (by omega) q
      exact fin v (by omega) (by unfold fPe; rw [if_neg (neg u), if_neg z])
    · have q := za_lt (by omega) (by omega) q
      rcases I2 with ⟨h1, h2⟩ | ⟨r, h1, h2, h3, h4⟩
      · exact absurd h1 (neg u)
      · subst h1
        refine tX10_members (by omega) (bX10_peace_142 hw2 (fin _ (by omega) ?_))
        unfold fPe
        rw [if_neg (neg u), if_pos z, bc512 r (by omega)]
    · have q := za_lt (by omega) (by omega) q
      refine fin (-1) (by omega) ?_
      rcases I2 with ⟨h1, h2⟩ | ⟨r, h1, h2, h3, h4⟩
      · unfold fPe; rw [if_pos h1]
      · exact absurd (by rw [h1]; exact nI_pos' (by omega)) u
    · have q : j ≤ M := za_nlt (by omega) (by omega) q
      refine skip q (fun p => u ?_) w2 hw2 R2 a2
      rw [m1_nI, za_xor, za_and, (sub hB nm (by omega)).mpr p.1.1]
      rfl
    · have q : j ≤ M := za_nlt (by omega) (by omega) q
      rw [m1_nI, za_xor, za_and] at u
      have u := za_eq (b := 0) (Nat.lt_of_le_of_lt Nat.and_le_left (by omega)) (by omega) u
      refine test q ((sub hB nm (by omega)).mp u) (fun r hr hlt => ?_)
      rw [hr] at z
      exact absurd z (nI_pos (by omega))
    · have q : j ≤ M := za_nlt (by omega) (by omega) q
      rw [m1_nI, za_xor, za_and] at u
      have u := za_eq (b := 0) (Nat.lt_of_le_of_lt Nat.and_le_left (by omega)) (by omega) u
      rcases I2 with ⟨h1, h2⟩ | ⟨r, h1, h2, h3, h4⟩
      · rw [h1] at z; exact absurd (by decide) z
      · subst h1
        have pj := aPc_le j (by omega)
        have pr := aPc_le r (by omega)
        refine tX10_members (by omega) (bX10_peace_71 hw2 (tX10_members (by omega) ?_))
        refine bX10_peace_76 hw2 (fun c => ?_) (fun c => ?_)
        · have c := za_lt (by omega) (by omega) c
          refine test q ((sub hB nm (by omega)).mp u) (fun r' hr' hlt => ?_)
          rw [← za_eq (by omega) (by omega) hr']
          omega
        · have c := za_nlt (by omega) (by omega) c
          exact skip q (fun p => p.2 r rfl h2 c) w2 hw2 R2 a2
  exact key 0 (by omega) w _ hw hR ag.rf (Or.inl ⟨rfl, fun q hq => absurd hq (Nat.not_lt_zero _)⟩)
theorem tX10_evenings (hw : w.1 = cs t) (hg : WG g) (hR : RM g w) (k : ∀ w' m x, aEvn (gH g) (sB (gS g)) m x → RM (gEvn g m x) w' → agM w w' → Q (some (.int (nI m))) w') : px_Call E (d + 20) 0 0 mX10_evenings [.ref 61] w Q := by
  have np := hg.1.1
  have h51 := hR.1.1.1
  refine eX10_evenings hw (fun z => ?_) (fun z => ?_) <;> rw [h51] at z ⊢
  · have z : aNp (gH g) ≠ 0 := za_ne (b := 0) (by omega) (by omega) z
    have A0 : agF [] [68] w (pw_sI w 61 68 (nI (aNp (gH g)))) := agF.sI (by decide)
    have key : ∀ m, m ≤ aNp (gH g) → 1 ≤ m → ∀ w2, ag [93] (pw_sI w 61 68 (nI (aNp (gH g)))) w2 → (∀ k, 1 ≤ k → k < m → ∀ y, y < k ^ aNp (gH g) → ¬ aPro (gH g) (sB (gS g)) k y) → px_W E mX10_evenings (d + 20) 0 0 19 [.ref 61, .int (nI m), .null] [] w2 Q := by
      refine za_up _ _ (fun m hm ih => ?_)
      intro h1 w2 a2 no
      have hw2 := a2.1.trans (hI hw)
      have A2 : agF [93] [68] w w2 := (A0.mono (by simp) (by simp)).tr (agF.of a2)
      have H2 := hR.1.agF A2 (by decide) (by decide)
      have S2 := hR.2.1.agF np A2 (by decide) (by decide)
      refine bX10_evenings_19 hw2 (tX10_findGroups hw2 H2 S2 hg.1 hg.s.1 h1 (by omega) (fun w3 x a3 f3 x3 p3 l3 => ?_) (fun w3 a3 n3 => ?_))
      · have hw3 := a3.1.trans hw2
        refine bX10_evenings_24 hw3 (fun _ => ?_) (fun q => absurd q (by decide))
        have A3 : agF [93] [68] w w3 := A2.tr (agF.of a3)
        have key2 : ∀ p, p ≤ aNp (gH g) → ∀ w4, ag [92] w3 w4 → (∀ q, q < p → pw_I w4 92 q = nI (dgt m (aNp (gH g)) x q)) → px_W E mX10_evenings (d + 20) 0 0 35 [.ref 61, .int (nI m), .int (nI p)] [] w4 Q := by
          refine za_up _ _ (fun p hp ih2 => ?_)
          intro w4 a4 F4
          have hw4 := a4.1.trans hw3
          have A4 : agF [92, 93] [68] w w4 := (A3.mono (by simp) (by simp)).tr (agF.of (a4.mono (by simp)))
          have H4 := hR.1.agF A4 (by decide) (by decide)
          refine bX10_evenings_35 hw4 (fun q => ?_) (fun q => ?_) <;> rw [H4.1.1] at q
          · have : p = aNp (gH g) := by have := za_le (by omega) (by omega) q; omega
            subst this
            have q := hR.lieK (w' := w4) (y := fun i => nI (dgt m (aNp (gH g)) x i)) (c := aNp (gH g)) hg A4 (by decide) (by decide) (by rw [a4.I (by decide), a3.I (by decide), a2.I (by decide), pw_same]) F4
            exact k w4 m x (Or.inr ⟨by omega, h1, hm, x3, p3, l3, no⟩) q.1 q.2
          · have pl : p < aNp (gH g) := za_nle (by omega) (by omega) q
            refine bX10_evenings_43 hw4 p rfl (by omega) ?_
            rw [nI_1, a4.I (by decide), f3 p pl]
            refine ih2 pl _ (a4.tr (ag.sI (by decide))) (fun q hq => ?_)
            by_cases e : q = p
            · subst e; exact pw_same
            · rw [pw_oth (fun _ z => e z)]; exact F4 q (by omega)
        exact key2 0 (by omega) w3 ag.rf (fun q hq => absurd hq (Nat.not_lt_zero _))
      · refine bX10_evenings_24 (a3.1.trans hw2) (fun q => absurd rfl q) (fun _ => ?_)
        rw [nI_1]
        by_cases e : m = aNp (gH g)
        · subst e
          obtain ⟨x, x1, x2⟩ := aPro_full hg.1 (sB (gS g)) (by omega)
          exact absurd x2 (n3 x x1)
        · refine ih (by omega) (by omega) w3 (a2.tr a3) (fun k hk1 hk2 y hy => ?_)
          by_cases e2 : k = m
          · subst e2; exact n3 y hy
          · exact no k hk1 (by omega) y hy
    exact key 1 (by omega) (Nat.le_refl _) _ ag.rf (fun k h1 h2 => by omega)
  · have z : aNp (gH g) = 0 := za_eq (b := 0) (by omega) (by omega) z
    have q := hR.lieK (w' := pw_sI w 61 68 (nI (aNp (gH g)))) (y := fun i => nI (dgt 0 (aNp (gH g)) 0 i)) (c := aNp (gH g)) (S := []) (F := [68]) hg (agF.sI (by decide)) (by decide) (by decide) pw_same (fun i hi => absurd hi (by omega))
    exact k _ 0 0 (Or.inl ⟨z, rfl⟩) q.1 q.2
theorem tX10_fits {x : Int32} (hw : w.1 = cs t) (hg : WG g) (hR : RM g w) (k : ∀ w', RM g w' → agM w w' → Q (some (.int (fFits g x))) w') : px_Call E (d + 20) 0 0 mX10_fits [.ref 61, .int x] w Q := by
  have hF := hR.2.2.2.2.2.2.2.2
  refine eX10_fits hw (tX10_layFits hw hR.1 hR.2.2.1 hg.1 hR.2.2.2.2.2.1 hg.2.2.2.1 hF.2.2.2.2.2.2.1 (fun w' a' _ => ?_))
  exact bX10_fits_5 (a'.1.trans hw) (k w' (hR.scr hg a' (by decide)) (a'.m (by decide)))
theorem aSu_0 {f : Nat → Bool} {y : Int32} : ∀ v, (∀ i, i < v → f i = false) → aSuK f y v = -1
  | 0, _ => rfl
  | v + 1, h => by
    rw [aSuK_s, if_neg (fun z => by rw [h v (by omega)] at z; cases z.1)]
    exact aSu_0 v (fun i hi => h i (by omega))
theorem tX10_sure {y x : Int32} (hw : w.1 = cs t) (hg : WG g) (hR : RM g w) (k : ∀ w', RM g w' → agM w w' → Q (some (.int (fSure g y x))) w') : px_Call E (d + 20) 0 0 mX10_sure [.ref 61, .int y, .int x] w Q := by
  have np := hg.1.1
  have hF := hR.2.2.2.2.2.2.2.2
  unfold fSure at k
  refine eX10_sure hw (fun a => bX10_sure_17 hw (by have := k w hR agM.rf; rw [if_neg (fun q => a ((isI1 y).mpr q.1))] at this; exact this)) (fun a => ?_)
  have a := (isI1 y).mp a
  refine tX10_layFits hw hR.1 hR.2.2.1 hg.1 hR.2.2.2.2.2.1 hg.2.2.2.1 hF.2.2.2.2.2.2.1 (fun w' a' C' => ?_)
  have hw' := a'.1.trans hw
  have kk := k w' (hR.scr hg a' (by decide)) (a'.m (by decide))
  by_cases z : 0 < aNp (gH g)
  · rw [if_neg (by omega)]
    rw [if_pos ⟨a, z⟩] at kk
    obtain ⟨C1, C2⟩ := C' z
    have cl := aCtK_le (fun v => aAgK (gH g) (gG g) v x (gN g)) 31
    refine bX10_sure_14 hw' (fun _ => ?_) (fun q => ?_)
    · have key : ∀ v, v ≤ 31 → px_W E mX10_sure (d + 20) 0 0 24 [.ref 61, .int y, .null, .int (aSuK (fun v => aAgK (gH g) (gG g) v x (gN g)) y v), .int (nI v)] [] w' Q := by
        refine za_up 31 _ (fun v hv ih => ?_)
        have nxt : v < 31 → ∀ q, aSuK (fun v => aAgK (gH g) (gG g) v x (gN g)) y (v + 1) = q → px_W E mX10_sure (d + 20) 0 0 53 [.ref 61, .int y, .null, .int q, .int (nI v)] [] w' Q := by
          intro vl q e
          refine bX10_sure_53 hw' ?_
          rw [nI_1, ← e]
          exact ih vl
        refine bX10_sure_24 hw' (fun q => ?_) (fun q => ?_)
        · have : v = 31 := by have := za_lt (a := 30) (by omega) (by omega) q; omega
          subst this
          exact kk
        · have vl : v < 31 := by have := za_nlt (a := 30) (by omega) (by omega) q; omega
          have rg := aSuK_r (fun v => aAgK (gH g) (gG g) v x (gN g)) y v
          have ng : aSuK (fun v => aAgK (gH g) (gG g) v x (gN g)) y v < 0 ↔ aSuK (fun v => aAgK (gH g) (gG g) v x (gN g)) y v = -1 := by
            rcases rg with e | ⟨j, hj, e⟩
            · rw [e]; exact ⟨fun _ => rfl, fun _ => by decide⟩
            · rw [e]; exact ⟨fun u => absurd u (nI_pos (by omega)), fun u => absurd u (nI_m1 (by omega))⟩
          refine bX10_sure_31 hw' v rfl (by omega) (fun b => ?_) (fun b c => ?_) (fun b c e => ?_) (fun b c e => ?_) <;> rw [C2 v (by omega), jb_eq0] at b
          · exact nxt vl _ (by rw [aSuK_s, if_neg (fun u => b u.1)])
          · have b := Classical.not_not.mp b
            exact bX10_sure_50 hw' (nxt vl _ (by rw [aSuK_s, if_pos ⟨b, Or.inr (ng.mp c)⟩]))
          · exact nxt vl _ (by rw [aSuK_s, if_neg (fun u => u.2.elim e (fun v => c (ng.mpr v)))])
          · have b := Classical.not_not.mp b
            exact bX10_sure_50 hw' (nxt vl _ (by rw [aSuK_s, if_pos ⟨b, Or.inl e⟩]))
      exact key 0 (by omega)
    · have q : aCtK (fun v => aAgK (gH g) (gG g) v x (gN g)) 31 = 0 := za_eq (b := 0) (by omega) (by omega) q
      rw [aSu_0 31 ((aCt_0 31).mp q)] at kk
      exact bX10_sure_17 hw' kk
  · rw [if_pos (by omega)]
    rw [if_neg (fun q => z q.2)] at kk
    exact bX10_sure_14 hw' (fun q => absurd rfl q) (fun _ => bX10_sure_17 hw' kk)
theorem tX10_ask {x y z : Int32} (hw : w.1 = cs t) (hg : WG g) (hR : RM g w) (k : ∀ w', RM g w' → agM w w' → Q (some (.int (fAsk g x y z))) w') : px_Call E (d + 20) 0 0 mX10_ask [.ref 61, .int x, .int y, .int z] w Q := by
  have np := hg.1.1
  have hF := hR.2.2.2.2.2.2.2.2
  unfold fAsk at k
  have no : ¬ (V 15 x ∧ z1 y ∧ aFt (gH g) (gG g) (gN g) z ≠ 0) → ∀ w', w'.1 = cs t → RM g w' → agM w w' → px_W E mX10_ask (d + 20) 0 0 27 [.null, .null, .null, .null, .null, .null] [] w' Q := fun q w' hw' R' x' => bX10_ask_27 hw' (by have := k w' R' x'; rw [if_neg q] at this; exact this)
  refine eX10_ask hw (fun a => no (fun q => a ((isI (n := 14) (by decide) x).mpr q.1)) w hw hR agM.rf) (fun a b => no (fun q => b ((isI1 y).mpr q.2.1)) w hw hR agM.rf) (fun a b => ?_)
  have va := (isI (n := 14) (by decide) x).mp a
  have vb := (isI1 y).mp b
  refine tX10_layFits hw hR.1 hR.2.2.1 hg.1 hR.2.2.2.2.2.1 hg.2.2.2.1 hF.2.2.2.2.2.2.1 (fun w1 a1 C1 => ?_)
  have hw1 := a1.1.trans hw
  have R1 := hR.scr hg a1 (by decide)
  have x1 := a1.m (by decide)
  by_cases hz : 0 < aNp (gH g)
  · rw [if_neg (by omega)]
    obtain ⟨C1, C2⟩ := C1 hz
    have cl := aCtK_le (fun v => aAgK (gH g) (gG g) v z (gN g)) 31
    have e0 : aFt (gH g) (gG g) (gN g) z = 0 ↔ aCtK (fun v => aAgK (gH g) (gG g) v z (gN g)) 31 = 0 := by
      unfold aFt; rw [if_neg (by omega)]; exact aFt_0
    refine bX10_ask_24 hw1 (fun q => ?_) (fun q => ?_)
    · have q : aCtK (fun v => aAgK (gH g) (gG g) v z (gN g)) 31 ≠ 0 := za_ne (b := 0) (by omega) (by omega) q
      rw [if_pos ⟨va, vb, fun u => q (e0.mp u)⟩] at k
      obtain ⟨e, he, rfl, ee⟩ := V_of (by decide) va
      rw [ee] at k
      have f31 : ∀ p, aLf (gH g) (gG g) (gN g) z e p ≤ 31 := fun p => (aLfK_le _ _ 31).2
      have as_le : ∀ (f : Nat → Nat) k, aAs f k ≤ k := by
        intro f k
        induction k with
        | zero => exact Nat.le_refl _
        | succ k ih => show (if f (k + 1) < f (aAs f k) then k + 1 else aAs f k) ≤ k + 1; split <;> omega
      have key : ∀ i, i ≤ aNp (gH g) → 1 ≤ i → ∀ w2, w2.1 = cs t → RM g w2 → agM w w2 → MCf (gH g) w2 31 → MFi (fun v => aAgK (gH g) (gG g) v z (gN g)) w2 31 → px_W E mX10_ask (d + 20) 0 0 35 [.ref 61, .int (nI e), .int y, .null, .int (nI (aAs (aLf (gH g) (gG g) (gN g) z e) (i - 1))), .int (nI i)] [] w2 Q := by
        refine za_up _ _ (fun i hi ih => ?_)
        intro i1 w2 hw2 R2 x2 D1 D2
        have al := as_le (aLf (gH g) (gG g) (gN g) z e) (i - 1)
        refine bX10_ask_35 hw2 (fun u v => ?_) (fun u v => ?_) (fun u => ?_) <;> rw [R2.1.1.1] at u
        · have : i = aNp (gH g) := by have := za_le (by omega) (by omega) u; omega
          subst this
          refine tX10_leftBy hw2 hg.1 D1 D2 (by omega) (by omega) (fun w3 a3 => ?_)
          have kk := k w3 (R2.scr hg a3 (by decide)) (x2.tr (a3.m (by decide)))
          rw [if_neg v] at kk
          exact bX10_ask_92 (a3.1.trans hw2) kk
        · have : i = aNp (gH g) := by have := za_le (by omega) (by omega) u; omega
          subst this
          have kk := k w2 R2 x2
          rw [if_pos v] at kk
          exact bX10_ask_92 hw2 kk
        · have hlt : i < aNp (gH g) := za_nle (by omega) (by omega) u
          refine tX10_leftBy hw2 hg.1 D1 D2 (by omega) hlt (fun w3 a3 => ?_)
          have hw3 := a3.1.trans hw2
          refine bX10_ask_51 hw3 (tX10_leftBy hw3 hg.1 (D1.ag a3 (by decide)) (D2.ag a3 (by decide)) (by omega) (by omega) (fun w4 a4 => ?_))
          have hw4 := a4.1.trans hw3
          have A := a3.tr a4
          have fi := f31 i
          have fb := f31 (aAs (aLf (gH g) (gG g) (gN g) z e) (i - 1))
          have es : aAs (aLf (gH g) (gG g) (gN g) z e) (i + 1 - 1) = if aLf (gH g) (gG g) (gN g) z e i < aLf (gH g) (gG g) (gN g) z e (aAs (aLf (gH g) (gG g) (gN g) z e) (i - 1)) then i else aAs (aLf (gH g) (gG g) (gN g) z e) (i - 1) := by
            have : i + 1 - 1 = (i - 1) + 1 := by omega
            rw [this]
            show (if aLf (gH g) (gG g) (gN g) z e (i - 1 + 1) < _ then i - 1 + 1 else _) = _
            rw [show i - 1 + 1 = i by omega]
          have ih := ih hlt (by omega) w4 hw4 (R2.scr hg A (by decide)) (x2.tr (A.m (by decide))) (D1.ag A (by decide)) (D2.ag A (by decide))
          rw [es, ← nI_1] at ih
          refine bX10_ask_58 hw4 (fun v => ?_) (fun v => ?_) <;> refine bX10_ask_68 hw4 ?_
          · have v := za_le (by omega) (by omega) v
            rw [if_neg (by omega)] at ih
            exact ih
          · have v := za_nle (by omega) (by omega) v
            rw [if_pos (by omega)] at ih
            exact ih
      exact key 1 (by omega) (Nat.le_refl _) w1 hw1 R1 x1 C1 C2
    · have q : aCtK (fun v => aAgK (gH g) (gG g) v z (gN g)) 31 = 0 := za_eq (b := 0) (by omega) (by omega) q
      exact no (fun u => u.2.2 (e0.mpr q)) w1 hw1 R1 x1
  · rw [if_pos (by omega)]
    refine bX10_ask_24 hw1 (fun q => absurd rfl q) (fun _ => no (fun u => u.2.2 ?_) w1 hw1 R1 x1)
    unfold aFt
    rw [if_pos (by omega)]
end MP
