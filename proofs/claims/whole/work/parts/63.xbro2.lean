section XPA
variable {E : px_E} {d : Nat} {w w0 : pw_W} {Q : Option Value → pw_W → Prop} {t : ct_T} {T : Nat → Nat} {n p : Nat} {D : DS}
theorem WD_NB {l : List Nat} (hD : WD D) (h6 : aNb (dH D) < 2) (h1 : lwr l) (h2 : l.length ≤ 8) (h3 : fnd (dB D) l (aNb (dH D)) 0 = aNb (dH D)) : WD (dNB D l) := by
  have hno := fnd_no (f := dB D) (l := l) (aNb (dH D)) 0 (by omega)
  have hb : nmOK (dB D) (aNb (dH D)) := ⟨fun i hi => hD.2.2.1.1.1 i (by have := hD.2.2.1.2.1; omega), fun i j hi hj => hD.2.2.1.1.2 i j (by have := hD.2.2.1.2.1; omega) (by have := hD.2.2.1.2.1; omega)⟩
  exact ⟨hD.1, hD.2.1, ⟨hb.up h1 h2 (fun j hj => hno j (by omega) (by omega)), by show aNb (dH D) ≤ aNb (dH D) + 1; omega, by show aNb (dH D) + 1 ≤ 2; omega⟩, hD.2.2.2⟩
theorem WD_Bro {l : List Nat} {c s x : Nat} {ro : Nat → Nat} (hD : WD (dNB D l)) (h2 : aNb (dH D) < 2) (hc : 1 ≤ c ∧ c ≤ 20) (hs : 1 ≤ s ∧ s ≤ 6) (hr : roOK (aNp (dH D)) x ro s) : WD (dBro D l c ro s) := by
  obtain ⟨⟨x1, x2, x3, x4, x5, x6, x7, x8, x9, x10, x11, x12, x13⟩, y1, y2, y3⟩ := hD
  refine ⟨⟨x1, x2, by show aNb (dH D) + 1 ≤ 2; omega, x4, x5, x6, x7, x8, x9, fun b hb => ?_, fun b hb k hk => ?_, fun b hb k j hk hj e => ?_, x13⟩, y1, ⟨y2.1, Nat.le_refl _, y2.2.2⟩, y3⟩
  · have hb : b < aNb (dH D) + 1 := hb
    show (1 ≤ uN (aCo (dH D)) (aNb (dH D)) c b ∧ uN (aCo (dH D)) (aNb (dH D)) c b ≤ 20) ∧ 1 ≤ uN (aRs (dH D)) (aNb (dH D)) s b ∧ uN (aRs (dH D)) (aNb (dH D)) s b ≤ 6
    by_cases e : b = aNb (dH D)
    · rw [e, uN_s, uN_s]; exact ⟨hc, hs⟩
    · rw [uN_o e, uN_o e]; exact x10 b (by show b < aNb (dH D); omega)
  · have hb : b < aNb (dH D) + 1 := hb
    have hk : k < uN (aRs (dH D)) (aNb (dH D)) s b := hk
    show (if 6 * aNb (dH D) ≤ 6 * b + k then ro (6 * b + k - 6 * aNb (dH D)) else aRo (dH D) (6 * b + k)) < aNp (dH D)
    by_cases e : b = aNb (dH D)
    · rw [e, uN_s] at hk
      rw [e, if_pos (by omega), show 6 * aNb (dH D) + k - 6 * aNb (dH D) = k by omega]
      exact (hr.2.2.1 k hk).1
    · rw [uN_o e] at hk
      have q : aRs (dH D) b ≤ 6 := (x10 b (by show b < aNb (dH D); omega)).2.2
      rw [if_neg (by omega)]
      exact x11 b (by show b < aNb (dH D); omega) k hk
  · have hb : b < aNb (dH D) + 1 := hb
    have hk : k < uN (aRs (dH D)) (aNb (dH D)) s b := hk
    have hj : j < uN (aRs (dH D)) (aNb (dH D)) s b := hj
    have e : (if 6 * aNb (dH D) ≤ 6 * b + k then ro (6 * b + k - 6 * aNb (dH D)) else aRo (dH D) (6 * b + k)) = (if 6 * aNb (dH D) ≤ 6 * b + j then ro (6 * b + j - 6 * aNb (dH D)) else aRo (dH D) (6 * b + j)) := e
    by_cases q : b = aNb (dH D)
    · rw [q, uN_s] at hk hj
      rw [q, if_pos (by omega), if_pos (by omega), show 6 * aNb (dH D) + k - 6 * aNb (dH D) = k by omega, show 6 * aNb (dH D) + j - 6 * aNb (dH D) = j by omega] at e
      exact hr.2.2.2 k j hk hj e
    · rw [uN_o q] at hk hj
      have q2 : aRs (dH D) b ≤ 6 := (x10 b (by show b < aNb (dH D); omega)).2.2
      rw [if_neg (by omega), if_neg (by omega)] at e
      exact x12 b (by show b < aNb (dH D); omega) k j hk hj e
theorem tX5_readBrother (hS : XS0 t T n w0) (hD : WD D) (hF : dF D = 0) (hG : XG t T n p D w0 w) (k1 : ∀ q D', pBro T n D p = .inr (q, D') → ∀ w', XG t T n q D' w0 w' → Q (some (.int 1)) w') (k0 : ∀ e, pBro T n D p = .inl e → ∀ w', XBd t T n e w0 w' → Q (some (.int 0)) w') : px_Call E (d + 9) 0 0 mX5_readBrother [.ref 16] w Q := by
  have ht := hS.2.1
  have hnb : pw_I w t.2.1 8 = nI (aNb (dH D)) := by
    have := hG.2.2.2.2.2.2.1.2
    rw [hF] at this
    exact this
  have n2 := hD.1.2.2.1
  refine eX5_readBrother hG.1 ht (fun z => ?_) (fun z => ?_) <;> rw [hnb] at z
  · have lt2 : aNb (dH D) < 2 := za_lt (b := 2) (by omega) (by decide) z
    have P0 : pBro T n D p = _ := if_pos lt2
    rw [hnb]
    refine tX5_adv hS hG (fun w1 g1 _ => bX5_readBrother_25 g1.1 ht (tX5_newB rfl lt2 hS hD g1 (fun q2 h2 w2 g2 _ => ?_) (fun e he w2 b2 => ?_)))
    · obtain ⟨c3, c4, -⟩ := pNew_r h2
      have t3 := tC_3 c3
      have hD2 : WD (dNB D (tW T n (tE T n p))) := WD_NB hD lt2 tW_lwr t3.2 c4
      have P1 := P0.trans (pB_r h2)
      refine bX5_readBrother_34 g2.1 ht (fun _ => ?_) (fun z => absurd z (by decide))
      refine tX5_readNumberBehind (x := 7) (lo := 1) (hi := 20) rfl rfl rfl (by decide) (by decide) (by decide) hS hD2 g2 (fun q3 c h3 w3 g3 _ => ?_) (fun e he w3 b3 => ?_)
      · have P2 := P1.trans (pB_r h3)
        have hc := pNb_r h3
        refine bX5_readBrother_56 g3.1 ht _ rfl lt2 ?_
        have g4 : XG t T n q3 (dNB D (tW T n (tE T n p))) w0 (pw_sI w3 (t.2.1 + 7) (aNb (dH D)) (nI c)) :=
          g3.st ht (by decide) (RXD.st g3.2.2.2.2.2.2.1 (by omega) (fun q => by omega) (fun q => by omega) (fun _ => Nat.le_refl _) (fun q => by omega) (by omega) (by omega)) rfl rfl rfl rfl rfl
        have r4 : RXD (dH D) 0 (pw_sI w3 (t.2.1 + 7) (aNb (dH D)) (nI c)) t.2.1 := by
          have := g4.2.2.2.2.2.2.1
          rw [show dF (dNB D (tW T n (tE T n p))) = 0 from hF] at this
          exact this
        have e0 : pw_I (pw_sI w3 (t.2.1 + 7) (aNb (dH D)) (nI c)) t.2.1 8 + 1 = nI (aNb (dH D) + 1) := by
          rw [r4.2, ← nI_succ]
        rw [e0]
        have D3 : ∃ D3 : DS, D3 = ((dH D, dP D, uN (dB D) (aNb (dH D)) (tW T n (tE T n p)), dO D, dK D, aNb (dH D) + 1, 1) : DS) := ⟨_, rfl⟩
        obtain ⟨D3, eD3⟩ := D3
        have hD3 : WD D3 := by rw [eD3]; exact hD2
        have hH3 : dH D3 = dH D := by rw [eD3]; rfl
        have hP3 : dP D3 = dP D := by rw [eD3]; rfl
        have g5 : XG t T n q3 D3 w0 (pw_sI (pw_sI w3 (t.2.1 + 7) (aNb (dH D)) (nI c)) t.2.1 8 (nI (aNb (dH D) + 1))) := by
          refine g4.st (c := 0) (D' := D3) ht (by decide) ?_ (by rw [eD3]; rfl) (by rw [eD3]; rfl) (by rw [eD3]; rfl) (by rw [eD3]; rfl) (by rw [eD3]; rfl)
          rw [hH3, show dF D3 = 1 by rw [eD3]; rfl]
          refine ⟨r4.to.I (fun cc hcc b => ?_), pw_same⟩
          rw [pw_I_sI]
          by_cases z : t.2.1 + cc = t.2.1 ∧ b = 8
          · rw [if_pos z, z.1, z.2, r4.2]; rfl
          · rw [if_neg z]; exact pw_oth (fun z1 z2 => z ⟨z1, z2⟩)
        have f7 : pw_I (pw_sI (pw_sI w3 (t.2.1 + 7) (aNb (dH D)) (nI c)) t.2.1 8 (nI (aNb (dH D) + 1))) (t.2.1 + 7) (aNb (dH D)) = nI c := by rw [pw_oth (by omega), pw_same]
        have nn7 := dX_ne ht (c := 7) (by decide)
        refine bX5_readBrother_70 g5.1 ht (tX5_readKeyword (x := 8) rfl (by decide) hS hD3 g5 (fun q5 h5 w5 g6 a6 => ?_) (fun e he w5 b5 => ?_))
        · have P3 := P2.trans (pB_r h5)
          refine bX5_readBrother_76 g6.1 ht (fun z => absurd z (by decide)) (fun _ => ?_)
          have f7' : pw_I w5 (t.2.1 + 7) (aNb (dH D)) = nI c := (a6.I (fun z => nn7.2.1 (List.mem_singleton.mp z)) _).trans f7
          refine eX5_readRound g6.1 ht ?_
          rw [← hH3]
          refine xRoL (d := d) (p := q5) (c := c) hS hD3 (by rw [hH3]; exact lt2) (fun q7 ro s h7 hr hs1 hs2 w7 g7 e7 e8 e9 => ?_) (fun e he w7 b7 => ?_) 7 0 (fun _ => 0) 0 q5 w5 rfl ⟨by decide, rfl, fun i hi => absurd hi (Nat.not_lt_zero i), fun i j hi => absurd hi (Nat.not_lt_zero i)⟩ rfl g6 (by rw [hH3]; exact f7') (fun i hi => absurd hi (Nat.not_lt_zero i))
          · rw [hP3, hH3] at h7
            rw [hH3] at hr e7 e8 e9
            have P4 := P3.trans (pB_r h7)
            obtain ⟨x9, hr⟩ := hr
            have hD8 : WD (dBro D (tW T n (tE T n p)) c ro s) := WD_Bro hD2 lt2 hc ⟨hs1, hs2⟩ hr
            have g8 : XG t T n q7 (dBro D (tW T n (tE T n p)) c ro s) w0 w7 := by
              obtain ⟨u1, u2, u3, u4, u5, u6, u7, u8, u9, u10⟩ := g7
              refine ⟨u1, u2, u3, u4, u5, u6, ?_, ?_, ?_, ?_⟩
              · rw [hH3, show dF D3 = 1 by rw [eD3]; rfl] at u7
                exact RXD.of (RXH.addB u7 e7 e8 e9 (fun b hb => (hD.1.2.2.2.2.2.2.2.2.2.1 b hb).2.2))
              · rw [eD3] at u8; exact u8
              · rw [eD3] at u9; exact u9
              · rw [eD3] at u10; exact u10
            refine bX5_readBrother_84 g8.1 ht (fun z => absurd z (by decide)) (fun _ => tX5_readLineEnd hS hD8 g8 (fun q9 h9 w9 g9 => ?_) (fun e he w9 b9 => ?_))
            · exact bX5_readBrother_91 g9.1 ht (fun z => absurd z (by decide)) (fun _ => bX5_readBrother_99 g9.1 ht (Or.inr rfl) (k1 _ _ (P4.trans (pB_r h9)) w9 g9))
            · exact bX5_readBrother_91 b9.1 ht (fun _ => bX5_readBrother_98 b9.1 ht (bX5_readBrother_99 b9.1 ht (Or.inl rfl) (k0 _ (P4.trans (pB_l he)) w9 b9))) (fun z => absurd rfl z)
          · rw [hP3, hH3] at he
            exact bX5_readBrother_84 b7.1 ht (fun _ => bX5_readBrother_98 b7.1 ht (bX5_readBrother_99 b7.1 ht (Or.inl rfl) (k0 _ (P3.trans (pB_l he)) w7 b7))) (fun z => absurd rfl z)
        · exact bX5_readBrother_76 b5.1 ht (fun _ => bX5_readBrother_98 b5.1 ht (bX5_readBrother_99 b5.1 ht (Or.inl rfl) (k0 _ (P2.trans (pB_l he)) w5 b5))) (fun z => absurd rfl z)
      · refine bX5_readBrother_56 b3.1 ht _ rfl lt2 ?_
        have b5 := (b3.st (c := 7) (k := aNb (dH D)) (v := -1) ht (by decide)).st (c := 0) (k := 8) (v := pw_I (pw_sI w3 (t.2.1 + 7) (aNb (dH D)) (-1)) t.2.1 8 + 1) ht (by decide)
        exact bX5_readBrother_70 b5.1 ht (tX5_readKeywordB hS b5 (fun w5 b6 => bX5_readBrother_76 b6.1 ht (fun _ => bX5_readBrother_98 b6.1 ht (bX5_readBrother_99 b6.1 ht (Or.inl rfl) (k0 _ (P1.trans (pB_l he)) w5 b6))) (fun z => absurd rfl z)))
    · exact bX5_readBrother_34 b2.1 ht (fun z => absurd rfl z) (fun _ => k0 e (P0.trans (pB_l he)) w2 b2)
  · have ge : ¬ aNb (dH D) < 2 := fun h => z (nI_lt (b := 2) h (by decide))
    exact tX5_refuse hS hD hG (fun w1 b1 _ => bX5_readBrother_17 b1.1 ht (Or.inl rfl) (k0 _ (if_neg ge) w1 b1))
end XPA
