/-! the reference: rounds, duel -/
section MP
variable {E : px_E} {d : Nat} {w : pw_W} {Q : Option Value → pw_W → Prop} {t : ct_T} {g : GG} {h : aH}
def R87 (h : aH) (b : Nat) (w : pw_W) : Prop := ∀ b', b' < aNb h → b' ≠ b → ∀ k, k < aRs h b' → pw_I w 87 (6 * b' + k) = nI (aRo h (6 * b' + k))
theorem R87.ro {b : Nat} {l : List Nat} (hR : R87 h b w) (hL : RL l w 87 (6 * b)) (hh : aWH h) (hb : b < aNb h) (hl : l.length = aRs h b) : RMR h (roB h b l) w := by
  intro b' hb' k hk
  have c5 := (hh.2.2.2.2.2.2.2.2.2.1 b hb).2.2
  have c6 := (hh.2.2.2.2.2.2.2.2.2.1 b' hb').2.2
  unfold roB
  by_cases e : b' = b
  · subst e
    rw [if_pos (by omega), show 6 * b' + k - 6 * b' = k by omega]
    exact hL k (by omega)
  · rw [if_neg (by omega)]
    exact hR b' hb' e k hk
theorem R87.agF {b : Nat} {w' : pw_W} {S F : List Nat} (hR : R87 h b w) (ha : agF S F w w') (n : 87 ∉ S) : R87 h b w' := fun b' h1 h2 k hk => (ha.I n (by decide) _).trans (hR b' h1 h2 k hk)
theorem RL.agF {l : List Nat} {w w' : pw_W} {a o : Nat} {S F : List Nat} (h : RL l w a o) (ha : agF S F w w') (n : a ∉ S) (n61 : a ≠ 61) : RL l w' a o := fun k hk => (ha.I n n61 _).trans (h k hk)
theorem tX10_rounds {x y : Int32} (hw : w.1 = cs t) (hg : WG g) (hR : RM g w) (k0 : ¬ (V (aNb (gH g)) x ∧ V 15 y) → ∀ w', RM (gLie g (gY g) 0) w' → agM w w' → Q (some (.int (-1))) w') (k1 : V (aNb (gH g)) x → V 15 y → ∀ w', RM (gRounds g x y) w' → agM w w' → Q (some (.int (fRounds g x y))) w') : px_Call E (d + 20) 0 0 mX10_rounds [.ref 61, .int x, .int y] w Q := by
  have np := hg.1.1
  have nb := hg.1.2.2.1
  have hd := hg.s.2
  have L0 := hR.lieK (w' := pw_sI w 61 68 0) (y := gY g) (c := 0) (S := []) (F := [68]) hg (agF.sI (by decide)) (by decide) (by decide) pw_same (fun i hi => absurd hi (Nat.not_lt_zero _))
  have R0 := L0.1
  have W0 : WG (gLie g (gY g) 0) := hg.lie (by decide)
  have no : ¬ (V (aNb (gH g)) x ∧ V 15 y) → px_W E mX10_rounds (d + 20) 0 0 23 [.null, .null, .null, .null, .null, .null, .null, .null] [] (pw_sI w 61 68 0) Q := fun q => bX10_rounds_23 (hI hw) (k0 q _ R0 L0.2)
  refine eX10_rounds hw (fun a => no (fun q => a ((R0.isB W0 x).mpr q.1))) (fun a b0 => ?_) (fun a b0 => no (fun q => b0 ((isI (n := 14) (by decide) y).mpr q.2)))
  have va : V (aNb (gH g)) x := (R0.isB W0 x).mp a
  have vb := (isI (n := 14) (by decide) y).mp b0
  have kk := k1 va vb
  unfold fRounds gRounds at kk
  obtain ⟨b, hb, rfl, eb⟩ := V_of (by omega) va
  obtain ⟨n, hn, rfl, en⟩ := V_of (by decide) vb
  rw [eb, en] at kk
  obtain ⟨-, c4, c5⟩ := hg.1.2.2.2.2.2.2.2.2.2.1 b hb
  have A0 : agF [69, 70, 87, 90, 92, 93, 94] [68, 69] w (pw_sI w 61 68 0) := agF.sI (by decide)
  have hw0 : (pw_sI w 61 68 0).1 = cs t := hI hw
  have H0 : ∀ {w'}, agF [69, 70, 87, 90, 92, 93, 94] [68, 69] w w' → RMH (gH g) w' := fun ha => hR.1.agF ha (by decide) (by decide)
  have S0 : ∀ {w'}, agF [69, 70, 87, 90, 92, 93, 94] [68, 69] w w' → RMS (gH g) (gS g) w' 89 := fun ha => hR.2.1.agF np ha (by decide) (by decide)
  have sL : ∀ {l : List Nat}, lB (aNp (gH g)) l → lB 6 l := fun hl j hj => by have := hl j hj; omega
  have lens := lSK_len (aRs (gH g) b) c5 _ (roL_in hg.1 hb)
  have lbs := lSK_B (roL_B hg.1 hb) 6
  have lt1000 : ∀ l, oHu (gH g) (gS g) b n l < 1000 := fun l => oHu_lt hg.1 hg.s.1 (by omega)
  have len : (aBO (gH g) (gS g) b n).2.length = aRs (gH g) b := by
    unfold aBO
    have e1 := boK_first (f := oHu (gH g) (gS g) b n) (m := 719) (l := lSK (roL (gH g) b) 6) (q := (1000000, [])) (q' := (1000000, lSK (roL (gH g) b) 6)) (by have := lt1000 (lSK (roL (gH g) b) 6); show _ < 1000000; omega) (by have := lt1000 (lSK (roL (gH g) b) 6); show _ < 1000000; omega)
    rw [e1, (boK_len (f := oHu (gH g) (gS g) b n) 720 (lSK (roL (gH g) b) 6) (1000000, lSK (roL (gH g) b) 6) rfl lbs lbs).1, lens]
  have e6 : 6 * nI b = nI (6 * b) := by rw [show (6 : Int32) = nI 6 from rfl, pk_mul]
  rw [e6]
  -- the end: the round as it was told
  have fin : ∀ (w1 : pw_W), agF [69, 70, 87, 90, 92, 93, 94] [68, 69] w w1 → R87 (gH g) b w1 → RL (roL (gH g) b) w1 94 0 → pw_I w1 61 69 = nI (aRs (gH g) b) → RL (aBO (gH g) (gS g) b n).2 w1 92 0 → px_W E mX10_rounds (d + 20) 0 0 184 [.ref 61, .null, .null, .int (nI (6 * b)), .int (nI (aBO (gH g) (gS g) b n).1), .null, .int 0, .null] [] w1 Q := by
    intro w1 A1 O1 K1 m1 Y1
    have key : ∀ j, j ≤ aRs (gH g) b → ∀ w2, ag [87] w1 w2 → R87 (gH g) b w2 → (∀ i, i < j → pw_I w2 87 (6 * b + i) = nI (aRo (gH g) (6 * b + i))) → px_W E mX10_rounds (d + 20) 0 0 184 [.ref 61, .null, .null, .int (nI (6 * b)), .int (nI (aBO (gH g) (gS g) b n).1), .null, .int (nI j), .null] [] w2 Q := by
      refine za_up _ _ (fun j hj ih => ?_)
      intro w2 a2 O2 F2
      have A2 := A1.tr (agF.of (F := [68, 69]) (a2.mono (T := [69, 70, 87, 90, 92, 93, 94]) (by simp)))
      have hw2 := A2.1.trans hw
      have m2 : pw_I w2 61 69 = nI (aRs (gH g) b) := (a2.I (by decide) _).trans m1
      refine bX10_rounds_184 hw2 (fun q => ?_) (fun q => ?_) <;> rw [m2] at q
      · have : j = aRs (gH g) b := by have := za_le (by omega) (by omega) q; omega
        subst this
        rw [m2]
        have A3 : agF [69, 70, 87, 90, 92, 93, 94] [68, 69] w (pw_sI w2 61 68 (nI (aRs (gH g) b))) := A2.tr (agF.sI (by decide))
        have A23 : agF [] [68] w2 (pw_sI w2 61 68 (nI (aRs (gH g) b))) := agF.sI (by decide)
        obtain ⟨hH, hS, hO, hL, hB, hG, hY, hT, hF⟩ := hR
        refine kk _ ⟨H0 A3, S0 A3, fun b' hb' i hi => ?_, hL.agF np A3 (by decide), hB.agF np A3 (by decide), hG.agF A3 (by decide), fun i hi => ?_, hT.agF A3 (by decide), (A3.F (by decide) (by decide)).trans hF.1, (A3.F (by decide) (by decide)).trans hF.2.1, (A3.F (by decide) (by decide)).trans hF.2.2.1, (A3.F (by decide) (by decide)).trans hF.2.2.2.1, (A3.F (by decide) (by decide)).trans hF.2.2.2.2.1, pw_same, (A3.F (by decide) (by decide)).trans hF.2.2.2.2.2.2.1, (A3.F (by decide) (by decide)).trans hF.2.2.2.2.2.2.2⟩ (A3.m (by decide))
        · rw [A23.I (by decide) (by decide)]
          by_cases e : b' = b
          · subst e; exact F2 i hi
          · exact O2 b' hb' e i hi
        · have hi : i < aRs (gH g) b := hi
          have := Y1 i (by omega)
          rw [Nat.zero_add] at this
          rw [A23.I (by decide) (by decide), a2.I (by decide)]
          exact this
      · have jl : j < aRs (gH g) b := za_nle (by omega) (by omega) q
        refine bX10_rounds_193 hw2 j rfl (by omega) (6 * b + j) (nI_add _ _) (by omega) ?_
        have e94 := K1 j (by rw [roL_len]; exact jl)
        rw [Nat.zero_add, roL_at jl] at e94
        rw [nI_1, a2.I (by decide), e94]
        refine ih jl _ (a2.tr (ag.sI (by decide))) (fun b' h1 h2 i hi => ?_) (fun i hi => ?_)
        · have c6 := (hg.1.2.2.2.2.2.2.2.2.2.1 b' h1).2.2
          rw [pw_oth (fun _ z => by omega)]
          exact O2 b' h1 h2 i hi
        · by_cases e : i = j
          · subst e; exact pw_same
          · rw [pw_oth (fun _ z => e (by omega))]; exact F2 i (by omega)
    exact key 0 (by omega) w1 ag.rf O1 (fun i hi => absurd hi (Nat.not_lt_zero _))
  -- the orders
  have loop : ∀ m (w1 : pw_W) (l : List Nat) (q : Nat × List Nat), l.length = aRs (gH g) b → lB (aNp (gH g)) l → lEnd m l = true → agF [69, 70, 87, 90, 92, 93, 94] [68, 69] w w1 → R87 (gH g) b w1 → RL (roL (gH g) b) w1 94 0 → pw_I w1 61 69 = nI (aRs (gH g) b) → RL l w1 93 0 → RL q.2 w1 92 0 → q.1 < 2 ^ 31 → boK (oHu (gH g) (gS g) b n) m l q = aBO (gH g) (gS g) b n → px_W E mX10_rounds (d + 20) 0 0 79 [.ref 61, .null, .int (nI n), .int (nI (6 * b)), .int (nI q.1), .int 1, .null, .null] [] w1 Q := by
    intro m
    induction m with
    | zero => intro w1 l q _ _ he; cases he
    | succ m ih =>
      intro w1 l q hl hB he A1 O1 K1 m1 R1 Y1 q1 eq
      have hw1 := A1.1.trans hw
      refine bX10_rounds_79 hw1 (fun z => absurd z (by decide)) (fun _ => ?_)
      -- the round is laid
      have lay : ∀ j, j ≤ aRs (gH g) b → ∀ w2, ag [87] w1 w2 → R87 (gH g) b w2 → (∀ i, i < j → pw_I w2 87 (6 * b + i) = nI (lG l i)) → px_W E mX10_rounds (d + 20) 0 0 87 [.ref 61, .null, .int (nI n), .int (nI (6 * b)), .int (nI q.1), .null, .int (nI j), .null] [] w2 Q := by
        refine za_up _ _ (fun j hj ih2 => ?_)
        intro w2 a2 O2 F2
        have A2 := A1.tr (agF.of (F := [68, 69]) (a2.mono (T := [69, 70, 87, 90, 92, 93, 94]) (by simp)))
        have hw2 := A2.1.trans hw
        have m2 : pw_I w2 61 69 = nI (aRs (gH g) b) := (a2.I (by decide) _).trans m1
        have R2 : RL l w2 93 0 := R1.ag a2 (by decide)
        refine bX10_rounds_87 hw2 (fun z => ?_) (fun z => ?_) <;> rw [m2] at z
        · have : j = aRs (gH g) b := by have := za_le (by omega) (by omega) z; omega
          subst this
          refine tX10_fillS hw2 np (S0 A2) (fun w3 a3 S3 => ?_)
          have hw3 := a3.1.trans hw2
          have A3 := A2.tr (agF.of (F := [68, 69]) (a3.mono (T := [69, 70, 87, 90, 92, 93, 94]) (by simp)))
          have RO : RMR (gH g) (roB (gH g) b l) w3 := (R87.ro O2 (fun i hi => F2 i (by omega)) hg.1 hb hl).ag a3 (by decide)
          refine bX10_rounds_122 hw3 (tX10_hurtBehind hw3 (H0 A3) S3 RO hg.1 hg.s.1 (roB_W hg.1 hb hl hB) (by omega) (fun w4 a4 _ => ?_))
          have hw4 := a4.1.trans hw3
          have A4 := A3.tr (agF.of (F := [68, 69]) (a4.mono (T := [69, 70, 87, 90, 92, 93, 94]) (by simp)))
          have B4 : ag [69, 70, 87, 90] w1 w4 := (a2.mono (by simp)).tr ((a3.mono (by simp)).tr (a4.mono (by simp)))
          have B24 : ag [69, 70, 90] w2 w4 := (a3.mono (by simp)).tr a4
          have O4 : R87 (gH g) b w4 := O2.agF (F := []) (agF.of B24) (by decide)
          have fl := lt1000 l
          unfold lEnd at he
          have nxt : ∀ (w5 : pw_W) (q' : Nat × List Nat), ag [92] w4 w5 → RL q'.2 w5 92 0 → q'.1 < 2 ^ 31 → (if oHu (gH g) (gS g) b n l < q.1 then (oHu (gH g) (gS g) b n l, l) else q) = q' → px_W E mX10_rounds (d + 20) 0 0 172 [.ref 61, .null, .int (nI n), .int (nI (6 * b)), .int (nI q'.1), .null, .null, .null] [] w5 Q := by
            intro w5 q' a5 Y5 q5 e5
            have hw5 := a5.1.trans hw4
            have A5 := A4.tr (agF.of (F := [68, 69]) (a5.mono (T := [69, 70, 87, 90, 92, 93, 94]) (by simp)))
            have O5 : R87 (gH g) b w5 := O4.agF (F := []) (agF.of a5) (by decide)
            have B5 : ag [69, 70, 87, 90, 92] w1 w5 := (B4.mono (by simp)).tr (a5.mono (by simp))
            have m5 : pw_I w5 61 69 = nI (aRs (gH g) b) := (B5.I (by decide) _).trans m1
            refine bX10_rounds_172 hw5 (tX10_nextRow hw5 (by omega) (by omega) (sL hB) (R1.ag B5 (by decide)) (by rw [hl]; exact m5) (fun w6 l' e6 a6 R6 => ?_) (fun e6 => ?_))
            · rw [boK_so e6, e5] at eq
              rw [e6] at he
              obtain ⟨n6, b6⟩ := lNx_ok (c := aNp (gH g)) e6
              refine bX10_rounds_176 (a6.1.trans hw5) ?_
              exact ih w6 l' q' (n6.trans hl) (b6 hB) he (A5.tr (agF.of (a6.mono (by simp)))) (O5.agF (F := []) (agF.of a6) (by decide)) ((K1.ag B5 (by decide)).ag a6 (by decide)) ((a6.I (by decide) _).trans m5) R6 (Y5.ag a6 (by decide)) q5 eq
            · rw [boK_no e6, e5] at eq
              refine bX10_rounds_176 hw5 (bX10_rounds_79 hw5 (fun _ => ?_) (fun z => absurd rfl z))
              have := fin w5 A5 O5 (K1.ag B5 (by decide)) m5 (by rw [← eq]; exact Y5)
              rw [← eq] at this
              exact this
          refine bX10_rounds_127 hw4 (fun u => ?_) (fun u => ?_)
          · have u : q.1 ≤ oHu (gH g) (gS g) b n l := za_le q1 (by omega) u
            exact nxt w4 q ag.rf (Y1.ag B4 (by decide)) q1 (if_neg (by omega))
          · have u : oHu (gH g) (gS g) b n l < q.1 := za_nle q1 (by omega) u
            have m4 : pw_I w4 61 69 = nI (aRs (gH g) b) := (B4.I (by decide) _).trans m1
            have R4 : RL l w4 93 0 := R1.ag B4 (by decide)
            have cp : ∀ j, j ≤ aRs (gH g) b → ∀ w5, ag [92] w4 w5 → (∀ i, i < j → pw_I w5 92 i = nI (lG l i)) → px_W E mX10_rounds (d + 20) 0 0 143 [.ref 61, .null, .int (nI n), .int (nI (6 * b)), .int (nI (oHu (gH g) (gS g) b n l)), .null, .null, .int (nI j)] [] w5 Q := by
              refine za_up _ _ (fun j hj ih3 => ?_)
              intro w5 a5 F5
              have hw5 := a5.1.trans hw4
              have m5 : pw_I w5 61 69 = nI (aRs (gH g) b) := (a5.I (by decide) _).trans m4
              refine bX10_rounds_143 hw5 (fun v => ?_) (fun v => ?_) <;> rw [m5] at v
              · have : j = aRs (gH g) b := by have := za_le (by omega) (by omega) v; omega
                subst this
                exact nxt w5 (oHu (gH g) (gS g) b n l, l) a5 (fun i hi => by rw [Nat.zero_add]; exact F5 i (by rw [← hl]; exact hi)) (by show oHu (gH g) (gS g) b n l < 2 ^ 31; omega) (if_pos u)
              · have jl : j < aRs (gH g) b := za_nle (by omega) (by omega) v
                refine bX10_rounds_152 hw5 j rfl (by omega) ?_
                have e93 := R4 j (by omega)
                rw [Nat.zero_add] at e93
                rw [nI_1, a5.I (by decide), e93]
                refine ih3 jl _ (a5.tr (ag.sI (by decide))) (fun i hi => ?_)
                by_cases e : i = j
                · subst e; exact pw_same
                · rw [pw_oth (fun _ z => e z)]; exact F5 i (by omega)
            exact cp 0 (by omega) w4 ag.rf (fun i hi => absurd hi (Nat.not_lt_zero _))
        · have jl : j < aRs (gH g) b := za_nle (by omega) (by omega) z
          refine bX10_rounds_96 hw2 j rfl (by omega) (6 * b + j) (nI_add _ _) (by omega) ?_
          have e93 := R2 j (by omega)
          rw [Nat.zero_add] at e93
          rw [nI_1, e93]
          refine ih2 jl _ (a2.tr (ag.sI (by decide))) (fun b' h1 h2 i hi => ?_) (fun i hi => ?_)
          · have c6 := (hg.1.2.2.2.2.2.2.2.2.2.1 b' h1).2.2
            rw [pw_oth (fun _ z => by omega)]
            exact O2 b' h1 h2 i hi
          · by_cases e : i = j
            · subst e; exact pw_same
            · rw [pw_oth (fun _ z => e (by omega))]; exact F2 i (by omega)
      exact lay 0 (by omega) w1 ag.rf O1 (fun i hi => absurd hi (Nat.not_lt_zero _))
  -- the round is kept
  have keep : ∀ j, j ≤ aRs (gH g) b → ∀ w1, ag [94] (pw_sI w 61 68 0) w1 → (∀ i, i < j → pw_I w1 94 i = nI (lG (roL (gH g) b) i)) → px_W E mX10_rounds (d + 20) 0 0 33 [.ref 61, .int (nI b), .int (nI n), .int (nI (6 * b)), .int (nI j), .null, .null, .null] [] w1 Q := by
    refine za_up _ _ (fun j hj ih => ?_)
    intro w1 a1 F1
    have hw1 := a1.1.trans hw0
    have A1 := A0.tr (agF.of (F := [68, 69]) (a1.mono (T := [69, 70, 87, 90, 92, 93, 94]) (by simp)))
    have A1' : agF [94] [68] w w1 := (agF.sI (by decide)).tr (agF.of a1)
    have H1 := H0 A1
    have RO := hR.2.2.1.agF A1' (by decide)
    refine bX10_rounds_33 hw1 b rfl (by omega) (fun q => ?_) (fun q => ?_) <;> rw [(H1.2.2.2.1 b hb).2] at q
    · have : j = aRs (gH g) b := by have := za_le (by omega) (by omega) q; omega
      subst this
      refine tX10_layRow hw1 H1 RO hg.1 hb (fun w2 a2 R2 m2 => ?_)
      rw [← lSK_np (roL_B hg.1 hb) 6 np] at R2 m2
      rw [lens] at m2
      have hw2 := a2.1.trans hw1
      have A2 := A1.tr (a2.mono (S' := [69, 70, 87, 90, 92, 93, 94]) (F' := [68, 69]) (by simp) (by simp))
      refine bX10_rounds_71 hw2 ?_
      refine loop 720 w2 (lSK (roL (gH g) b) 6) (1000000, []) lens lbs (lEnd_SK _) A2 (fun b' h1 h2 i hi => ?_) ?_ m2 R2 (fun i hi => absurd hi (Nat.not_lt_zero _)) (by decide) rfl
      · rw [a2.I (by decide) (by decide)]
        exact RO b' h1 i hi
      · intro i hi
        rw [Nat.zero_add, a2.I (by decide) (by decide)]
        exact F1 i (by rw [roL_len] at hi; exact hi)
    · have jl : j < aRs (gH g) b := za_nle (by omega) (by omega) q
      refine bX10_rounds_44 hw1 (6 * b + j) (nI_add _ _) (by omega) j rfl (by omega) ?_
      rw [nI_1, RO b hb j jl]
      refine ih jl _ (a1.tr (ag.sI (by decide))) (fun i hi => ?_)
      by_cases e : i = j
      · subst e; rw [pw_same, roL_at jl]
      · rw [pw_oth (fun _ z => e z)]; exact F1 i (by omega)
  exact keep 0 (by omega) _ ag.rf (fun i hi => absurd hi (Nat.not_lt_zero _))
theorem tX10_duel {x : Int32} (hw : w.1 = cs t) (hg : WG g) (hR : RM g w) (k0 : ¬ V (aNm (gH g)) x → ∀ w', RM (gLie g (gY g) 0) w' → agM w w' → Q (some (.int (-1))) w') (k1 : V (aNm (gH g)) x → ∀ w', RM (gDuel g (aDu (gH g) (gS g) (N x) 4)) w' → agM w w' → Q (some (.int (nI (aDu (gH g) (gS g) (N x) 4).1))) w') : px_Call E (d + 20) 0 0 mX10_duel [.ref 61, .int x] w Q := by
  have np := hg.1.1
  have nm := hg.1.2.1
  have q13 := hg.1.2.2.2.2.2.2.2.2.2.2.2.2
  have L0 := hR.lieK (w' := pw_sI w 61 68 0) (y := gY g) (c := 0) (S := []) (F := [68]) hg (agF.sI (by decide)) (by decide) (by decide) pw_same (fun i hi => absurd hi (Nat.not_lt_zero _))
  have R0 := L0.1
  have W0 : WG (gLie g (gY g) 0) := hg.lie (by decide)
  refine eX10_duel hw (fun a => ?_) (fun a => k0 (fun q => a ((R0.isM W0 x).mpr q)) _ R0 L0.2)
  have va : V (aNm (gH g)) x := (R0.isM W0 x).mp a
  have kk := k1 va
  obtain ⟨i, hi, rfl, ei⟩ := V_of (by omega) va
  rw [ei] at kk
  obtain ⟨m1, m2, m3, -⟩ := hg.1.2.2.2.2.2.2.2.2.1 i hi
  refine RM.fill (hI hw) W0 R0 (fun w1 hw1 R1 a1 S1 => ?_)
  obtain ⟨f1, f2, -⟩ := R1.1.2.2.1 i hi
  have f1 : pw_I w1 83 i = nI (aFi (gH g) i) := f1
  have f2 : pw_I w1 84 i = nI (aSe (gH g) i) := f2
  have S1 : RMS (gH g) (gS g) w1 90 := S1
  refine bX10_duel_19 hw1 i rfl (by omega) ?_
  rw [f1, f2]
  have gA := (hg.s.1.1 _ m1).1
  have gB := (hg.s.1.1 _ m2).1
  have wo : ∀ (p q a b : Nat), -nI (aEv (gH g) (min 30 (sF (gS g) p + a * 5)) (min 30 (sF (gS g) q + b * 5)) (sL (gS g) p) (sD (gS g))) - nI a = -nI (aWo (gH g) (gS g) p q a b) := fun p q a b => by
    unfold aWo
    rw [← nI_add, Int32.neg_add, Int32.sub_eq_add_neg]
  have wl : ∀ p q a b, a ≤ 1 → aWo (gH g) (gS g) p q a b ≤ 21 := fun p q a b => aWo_le
  have half : ∀ j, j < 4 → nI j / 2 = nI (j / 2) ∧ js_rem (nI j) 2 = nI (j % 2) ∧ js_rem (nI j + 2) 4 = nI ((j + 2) % 4) ∧ nI j / 2 * 2 + 1 - js_rem (nI j) 2 = nI (j / 2 * 2 + 1 - j % 2) := by decide
  have two : ∀ j, j < 4 → ∀ (P : Nat → Nat → Prop), P (j / 2) (j % 2) → P (j / 2) (j % 2) := fun _ _ _ z => z
  -- the second half
  have sec : ∀ (w2 : pw_W), agF [69, 70, 90, 95, 96] [68] w w2 → RM (gLie g (gY g) 0) w2 → (∀ j, j < 4 → pw_I w2 95 j = -nI (aWo (gH g) (gS g) (aFi (gH g) i) (aSe (gH g) i) (j / 2) (j % 2)) ∧ pw_I w2 96 j = -nI (aWo (gH g) (gS g) (aSe (gH g) i) (aFi (gH g) i) (j % 2) (j / 2))) → px_W E mX10_duel (d + 20) 0 0 154 [.ref 61, .null, .null, .null, .int 0, .int 0, .null] [] w2 Q := by
    intro w2 A2 R2 T2
    have key : ∀ j, j ≤ 4 → ∀ w3, agF [92] [68] w2 w3 → RM (gDuel g (aDu (gH g) (gS g) i j)) w3 → px_W E mX10_duel (d + 20) 0 0 154 [.ref 61, .null, .null, .null, .int (nI (aDu (gH g) (gS g) i j).1), .int (nI j), .null] [] w3 Q := by
      refine za_up 4 _ (fun j hj ih => ?_)
      intro w3 A3 R3
      have hw3 := A3.1.trans (A2.1.trans hw)
      have dl := aDu_le (gH g) (gS g) i j
      refine bX10_duel_154 hw3 (fun z => ?_) (fun z => ?_)
      · have : j = 4 := by have := za_le (a := 4) (by omega) (by omega) z; omega
        subst this
        exact kk w3 R3 (((A2.mono (S' := [69, 70, 90, 92, 95, 96]) (F' := [68]) (by intro a; simp; omega) (by simp)).tr (A3.mono (by simp) (by simp))).m (by decide))
      · have jl : j < 4 := za_nle (a := 4) (by omega) (by omega) z
        obtain ⟨h1, h2, h3, h4⟩ := half j jl
        have ih := ih jl
        rw [aDu_s] at ih
        have T3 : ∀ q, q < 4 → pw_I w3 95 q = -nI (aWo (gH g) (gS g) (aFi (gH g) i) (aSe (gH g) i) (q / 2) (q % 2)) ∧ pw_I w3 96 q = -nI (aWo (gH g) (gS g) (aSe (gH g) i) (aFi (gH g) i) (q % 2) (q / 2)) := fun q hq => by
          rw [A3.I (by decide) (by decide), A3.I (by decide) (by decide)]
          exact T2 q hq
        have d1 : (j + 2) % 4 / 2 = 1 - j / 2 ∧ (j + 2) % 4 % 2 = j % 2 ∧ (j / 2 * 2 + 1 - j % 2) / 2 = j / 2 ∧ (j / 2 * 2 + 1 - j % 2) % 2 = 1 - j % 2 := by omega
        obtain ⟨t1, -⟩ := T3 ((j + 2) % 4) (by omega)
        obtain ⟨t2, t3⟩ := T3 j jl
        obtain ⟨-, t4⟩ := T3 (j / 2 * 2 + 1 - j % 2) (by omega)
        rw [d1.1, d1.2.1] at t1
        rw [d1.2.2.1, d1.2.2.2] at t4
        have b1 := wl (aFi (gH g) i) (aSe (gH g) i) (j / 2) (j % 2) (by omega)
        have b2 := wl (aFi (gH g) i) (aSe (gH g) i) (1 - j / 2) (j % 2) (by omega)
        have b3 := wl (aSe (gH g) i) (aFi (gH g) i) (j % 2) (j / 2) (by omega)
        have b4 := wl (aSe (gH g) i) (aFi (gH g) i) (1 - j % 2) (j / 2) (by omega)
        have skip : ¬ aRst (gH g) (gS g) i (j / 2) (j % 2) → px_W E mX10_duel (d + 20) 0 0 245 [.ref 61, .null, .null, .null, .int (nI (aDu (gH g) (gS g) i j).1), .int (nI j), .null] [] w3 Q := by
          intro z
          rw [if_neg z] at ih
          refine bX10_duel_245 hw3 ?_
          rw [nI_1]
          exact ih w3 A3 R3
        refine bX10_duel_160 hw3 ((j + 2) % 4) h3 (by omega) j rfl jl (fun u => ?_) (fun u => ?_) <;> rw [t1, t2, neg_lt (by omega) (by omega)] at u
        · exact skip (fun z => by have := z.1; omega)
        · have le : -nI (aWo (gH g) (gS g) (aSe (gH g) i) (aFi (gH g) i) (1 - j % 2) (j / 2)) ≤ -nI (aWo (gH g) (gS g) (aSe (gH g) i) (aFi (gH g) i) (j % 2) (j / 2)) ↔ aWo (gH g) (gS g) (aSe (gH g) i) (aFi (gH g) i) (j % 2) (j / 2) ≤ aWo (gH g) (gS g) (aSe (gH g) i) (aFi (gH g) i) (1 - j % 2) (j / 2) := by
            rw [← Int32.not_lt, neg_lt (by omega) (by omega)]
            omega
          refine bX10_duel_181 hw3 (j / 2 * 2 + 1 - j % 2) h4 (by omega) j rfl jl (fun v z => ?_) (fun v z => ?_) (fun v => ?_) <;> rw [t3, t4, le] at v
          · have yes : aRst (gH g) (gS g) i (j / 2) (j % 2) := ⟨by omega, v⟩
            have z : (aDu (gH g) (gS g) i j).1 ≠ 0 := za_ne (b := 0) (by omega) (by omega) z
            rw [if_pos yes, if_neg z] at ih
            refine bX10_duel_242 hw3 (bX10_duel_245 hw3 ?_)
            rw [nI_1, nI_1]
            refine ih w3 A3 ?_
            unfold gDuel at R3 ⊢
            rw [if_neg z] at R3
            rw [if_neg (by show ¬ (aDu (gH g) (gS g) i j).1 + 1 = 0; omega)]
            exact R3
          · have yes : aRst (gH g) (gS g) i (j / 2) (j % 2) := ⟨by omega, v⟩
            have z : (aDu (gH g) (gS g) i j).1 = 0 := za_eq (b := 0) (by omega) (by omega) z
            rw [if_pos yes, if_pos z] at ih
            refine bX10_duel_217 hw3 ?_
            rw [h1, h2]
            have R3' : RM (gLie g (gY g) 0) w3 := by
              unfold gDuel at R3
              rw [if_pos z] at R3
              exact R3
            have A4 : agF [92] [68] w3 (pw_sI (pw_sI (pw_sI w3 92 0 (nI (j / 2))) 92 1 (nI (j % 2))) 61 68 2) := ((agF.sC (by decide)).tr (agF.sC (by decide))).tr (agF.sI (by decide))
            have q := R3'.lieK (y := duY j) (c := 2) W0 A4 (by decide) (by decide) pw_same (fun q hq => by
              rw [pw_oth (fun z _ => by omega)]
              match q, hq with
              | 0, _ => rw [pw_oth (fun _ z => by omega), pw_same]; rfl
              | 1, _ => rw [pw_same]; rfl)
            refine bX10_duel_242 (A4.1.trans hw3) (bX10_duel_245 (A4.1.trans hw3) ?_)
            rw [nI_1, nI_1]
            refine ih _ (A3.tr A4) ?_
            unfold gDuel
            rw [if_neg (by show ¬ (aDu (gH g) (gS g) i j).1 + 1 = 0; omega)]
            exact q.1
          · exact skip (fun z => v z.2)
    exact key 0 (by omega) w2 agF.rf R2
  -- the first half
  have fst : ∀ j, j ≤ 4 → ∀ w2, w2.1 = cs t → agF [69, 70, 90, 95, 96] [68] w w2 → RM (gLie g (gY g) 0) w2 → RMS (gH g) (gS g) w2 90 → (∀ q, q < j → pw_I w2 95 q = -nI (aWo (gH g) (gS g) (aFi (gH g) i) (aSe (gH g) i) (q / 2) (q % 2)) ∧ pw_I w2 96 q = -nI (aWo (gH g) (gS g) (aSe (gH g) i) (aFi (gH g) i) (q % 2) (q / 2))) → px_W E mX10_duel (d + 20) 0 0 36 [.ref 61, .null, .int (nI (aFi (gH g) i)), .int (nI (aSe (gH g) i)), .int (nI j), .null, .null] [] w2 Q := by
    refine za_up 4 _ (fun j hj ih => ?_)
    intro w2 hw2 A2 R2 S2 T2
    refine bX10_duel_36 hw2 (fun z => ?_) (fun z => ?_)
    · have : j = 4 := by have := za_le (a := 4) (by omega) (by omega) z; omega
      subst this
      exact sec w2 A2 R2 T2
    · have jl : j < 4 := za_nle (a := 4) (by omega) (by omega) z
      obtain ⟨h1, h2, -, -⟩ := half j jl
      refine bX10_duel_42 hw2 (aFi (gH g) i) rfl (by omega) (aSe (gH g) i) rfl (by omega) (6 + aFi (gH g) i) (six _) (by omega) ?_
      have e1 : hX10_lesser 30 (pw_I w2 90 (aFi (gH g) i) + 5 * (nI j / 2)) = nI (min 30 (sF (gS g) (aFi (gH g) i) + j / 2 * 5)) := by
        rw [S2.2.1 _ m1, h1, show (5 : Int32) = nI 5 from rfl, pk_mul, nI_add, Nat.mul_comm]; exact za_lesser (a := 30) (by decide) (by omega)
      have e2 : hX10_lesser 30 (pw_I w2 90 (aSe (gH g) i) + 5 * js_rem (nI j) 2) = nI (min 30 (sF (gS g) (aSe (gH g) i) + j % 2 * 5)) := by
        rw [S2.2.1 _ m2, h2, show (5 : Int32) = nI 5 from rfl, pk_mul, nI_add, Nat.mul_comm]; exact za_lesser (a := 30) (by decide) (by omega)
      rw [e1, e2, S2.1 _ m1]
      have F2 : mFm (aPr (gH g)) w2 := R2.1.2.2.2.2
      refine tX10_touchOf hw2 F2 q13.2 q13.1 _ _ _ _ S2.2.2.2.1 (fun w3 a3 => ?_)
      have hw3 := a3.1.trans hw2
      have R3 := R2.scr W0 a3 (by decide)
      have S3 := S2.ag a3 (by decide)
      refine bX10_duel_105 hw3 j rfl jl (6 + aSe (gH g) i) (six _) (by omega) ?_
      rw [S3.1 _ m2, h1]
      have w95 := wo (aFi (gH g) i) (aSe (gH g) i) (j / 2) (j % 2)
      unfold aEv fEv at w95
      rw [w95]
      have a4 : ag [95] w3 (pw_sI w3 95 j (-nI (aWo (gH g) (gS g) (aFi (gH g) i) (aSe (gH g) i) (j / 2) (j % 2)))) := ag.sI (by decide)
      have R4 := R3.scr W0 a4 (by decide)
      have F4 : mFm (aPr (gH g)) (pw_sI w3 95 j (-nI (aWo (gH g) (gS g) (aFi (gH g) i) (aSe (gH g) i) (j / 2) (j % 2)))) := R4.1.2.2.2.2
      refine tX10_touchOf (hI hw3) F4 q13.2 q13.1 _ _ _ _ (S3.ag a4 (by decide)).2.2.2.1 (fun w5 a5 => ?_)
      have hw5 := a5.1.trans (hI hw3)
      have R5 := R4.scr W0 a5 (by decide)
      have S5 := (S3.ag a4 (by decide)).ag a5 (by decide)
      refine bX10_duel_135 hw5 j rfl jl ?_
      have w96 := wo (aSe (gH g) i) (aFi (gH g) i) (j % 2) (j / 2)
      unfold aEv fEv at w96
      rw [h2, w96, nI_1]
      have a6 : ag [96] w5 (pw_sI w5 96 j (-nI (aWo (gH g) (gS g) (aSe (gH g) i) (aFi (gH g) i) (j % 2) (j / 2)))) := ag.sI (by decide)
      have B : ag [69, 70, 95] w2 w5 := (a3.mono (by simp)).tr ((a4.mono (by simp)).tr (a5.mono (by simp)))
      refine ih jl _ (hI hw5) ((A2.tr (agF.of (B.mono (by simp)))).tr (agF.sC (by decide))) (R5.scr W0 a6 (by decide)) (S5.ag a6 (by decide)) (fun q hq => ?_)
      by_cases e : q = j
      · subst e
        refine ⟨?_, pw_same⟩
        rw [pw_oth (fun z _ => by omega), a5.I (by decide), pw_same]
      · refine ⟨?_, ?_⟩
        · rw [pw_oth (fun z _ => by omega), a5.I (by decide), pw_oth (fun _ z => e z), a3.I (by decide)]; exact (T2 q (by omega)).1
        · rw [pw_oth (fun _ z => e z), a5.I (by decide), pw_oth (fun z _ => by omega), a3.I (by decide)]; exact (T2 q (by omega)).2
  exact fst 0 (by omega) w1 hw1 ((agF.sI (by decide)).tr (agF.of (a1.mono (by simp)))) R1 S1 (fun q hq => absurd hq (Nat.not_lt_zero _))
end MP
