section MHM
variable {E : px_E} {d : Nat} {w : pw_W} {Q : Option Value → pw_W → Prop} {t : ct_T} {g : GG}
theorem pcM_61 : ∀ a ∈ pcM, 61 ≤ a := by decide
theorem tX10_hamlet (hw : w.1 = cs t) (hg : WG g) (hR : RM g w)
    (k1 : ∀ D', pAll (gP g) (gL g) (gL g + 1) D0 0 = .inr D' → ∀ w', RM (gHam g (dH D')) w' → agM w w' → Q (some (.int (nI (aNp (dH D'))))) w')
    (k0 : ∀ e, pAll (gP g) (gL g) (gL g + 1) D0 0 = .inl e → ∀ w', RM (gFlt g e) w' → agM w w' → Q (some (.int (-1))) w') : px_Call E (d + 9) 0 0 mX10_hamlet [.ref 61] w Q := by
  obtain ⟨hH, hS, hO, hL, hB, hG, hY, hT, hF⟩ := hR
  have np := hg.1.1
  refine eX10_hamlet hw (tX10_readAll (T := gP g) (n := gL g) hw (fun i _ => hg.2.2.2.2.2.2 i) hg.2.2.2.2.2.1 hF.1 hT (fun D' hA hD w1 hw1 a1 m1 f2 f3 f1 => ?_) (fun e hA w1 hw1 a1 he f2 f3 f1 => ?_))
  · obtain ⟨⟨⟨n45, n46, n47, n48, n49, n50, n20⟩, g2, g3, g4, g5⟩, -, ⟨o24, -⟩, q0, q1⟩ := m1
    have le : pw_I w1 61 2 ≤ 0 := by rw [f2]; exact Int32.le_refl _
    have hh := hD.1
    obtain ⟨w2, e2⟩ : ∃ w2, w2 = pw_sI (pw_sI (pw_sI (pw_sI (pw_sI (pw_sI (pw_sI (pw_sI w1 61 51 (pw_I w1 61 45)) 61 52 (pw_I w1 61 46)) 61 53 (pw_I w1 61 47)) 61 54 (pw_I w1 61 48)) 61 55 (pw_I w1 61 49)) 61 56 (pw_I w1 61 50)) 61 21 (pw_I w1 61 20)) 61 25 (pw_I w1 61 24) := ⟨_, rfl⟩
    have hw2 : w2.1 = cs t := by rw [e2]; exact hI (hI (hI (hI (hI (hI (hI (hI hw1)))))))
    have a2 : agF [] [51, 52, 53, 54, 55, 56, 21, 25] w1 w2 := by
      rw [e2]
      exact (agF.sI (by decide)).tr ((agF.sI (by decide)).tr ((agF.sI (by decide)).tr ((agF.sI (by decide)).tr ((agF.sI (by decide)).tr ((agF.sI (by decide)).tr ((agF.sI (by decide)).tr (agF.sI (by decide))))))))
    have c51 : pw_I w2 61 51 = nI (aNp (dH D')) := by
      rw [e2, pw_oth (by decide), pw_oth (by decide), pw_oth (by decide), pw_oth (by decide), pw_oth (by decide), pw_oth (by decide), pw_oth (by decide), pw_same]; exact n45
    have c52 : pw_I w2 61 52 = nI (aNm (dH D')) := by
      rw [e2, pw_oth (by decide), pw_oth (by decide), pw_oth (by decide), pw_oth (by decide), pw_oth (by decide), pw_oth (by decide), pw_same]; exact n46
    have c53 : pw_I w2 61 53 = nI (aNb (dH D')) := by
      rw [e2, pw_oth (by decide), pw_oth (by decide), pw_oth (by decide), pw_oth (by decide), pw_oth (by decide), pw_same]; exact n47
    have c54 : pw_I w2 61 54 = nI (aBd (dH D')) := by
      rw [e2, pw_oth (by decide), pw_oth (by decide), pw_oth (by decide), pw_oth (by decide), pw_same]; exact n48
    have c55 : pw_I w2 61 55 = nI (aFl (dH D')) := by
      rw [e2, pw_oth (by decide), pw_oth (by decide), pw_oth (by decide), pw_same]; exact n49
    have c56 : pw_I w2 61 56 = nI (aDr (dH D')) := by
      rw [e2, pw_oth (by decide), pw_oth (by decide), pw_same]; exact n50
    have c21 : pw_I w2 61 21 = nI (aUn (dH D')) := by
      rw [e2, pw_oth (by decide), pw_same]; exact n20
    have c25 : pw_I w2 61 25 = jb ((dO D').testBit 3 = true) := by
      rw [e2, pw_same]; exact o24
    have go : ∀ (y : Int32) (m : Nat), y = nI m → m ≤ 320 → ((dO D').testBit 3 = true → m = (aPr (dH D')).length) → px_W E mX10_hamlet (d + 9) 0 0 93 [.ref 61, .null, .null] [.int y, .ref 61] w2 Q := fun y m hy hm hm2 => by
      subst hy
      refine bX10_hamlet_93 hw2 (mH1 (m := m) (hI hw2) hm pw_same (fun w4 a4 s4 => ?_))
      obtain ⟨w3, e3⟩ : ∃ w3, w3 = pw_sI w2 61 18 (nI m) := ⟨_, rfl⟩
      rw [← e3] at a4 s4
      have hw3 : w3.1 = cs t := by rw [e3]; exact hI hw2
      have a3 : agF [] [18] w2 w3 := by rw [e3]; exact agF.sI (by decide)
      have hw4 := a4.1.trans hw3
      have fo : ∀ b, b ≠ 18 → pw_I w3 61 b = pw_I w2 61 b := fun b hb => by rw [e3, pw_oth (fun _ z => hb z)]
      refine mH2 (m := aNp (dH D')) hw4 hh.1 (by rw [a4.I (by decide), fo 51 (by decide)]; exact c51) (fun w5 a5 s5 => ?_)
      have hw5 := a5.1.trans hw4
      refine mH3 (m := aNm (dH D')) hw5 hh.2.1 (by rw [a5.I (by decide), a4.I (by decide), fo 52 (by decide)]; exact c52) (fun w6 a6 s6 => ?_)
      have hw6 := a6.1.trans hw5
      have src : ∀ a ∈ [64, 65, 71, 72, 73, 74, 75, 76, 77, 78, 79], ∀ b, pw_I w3 a b = pw_I w1 a b := fun a ha b => by
        have n1 : a ≠ 61 := fun z => by rw [z] at ha; exact absurd ha (by decide)
        rw [a3.I List.not_mem_nil n1, a2.I List.not_mem_nil n1]
      have s46 : ∀ a ∈ [71, 72, 73, 74, 75, 76, 77, 78, 79], ∀ b, pw_I w4 a b = pw_I w1 a b ∧ pw_I w5 a b = pw_I w1 a b ∧ pw_I w6 a b = pw_I w1 a b := fun a ha b => by
        have n4 : a ∉ [66, 67] := fun z => (by decide : ∀ a ∈ [71, 72, 73, 74, 75, 76, 77, 78, 79], a ∉ [66, 67]) a ha z
        have n5 : a ∉ [80, 81, 82] := fun z => (by decide : ∀ a ∈ [71, 72, 73, 74, 75, 76, 77, 78, 79], a ∉ [80, 81, 82]) a ha z
        have n6 : a ∉ [83, 84, 85] := fun z => (by decide : ∀ a ∈ [71, 72, 73, 74, 75, 76, 77, 78, 79], a ∉ [83, 84, 85]) a ha z
        have h4 : pw_I w4 a b = pw_I w1 a b := by rw [a4.I n4]; exact src a ((by decide : ∀ a ∈ [71, 72, 73, 74, 75, 76, 77, 78, 79], a ∈ [64, 65, 71, 72, 73, 74, 75, 76, 77, 78, 79]) a ha) b
        have h5 : pw_I w5 a b = pw_I w1 a b := by rw [a5.I n5]; exact h4
        exact ⟨h4, h5, by rw [a6.I n6]; exact h5⟩
      refine mH4 (m := aNb (dH D')) (rs := aRs (dH D')) hw6 hh.2.2.1 (by rw [a6.I (by decide), a5.I (by decide), a4.I (by decide), fo 53 (by decide)]; exact c53) (fun b hb => ⟨(hh.2.2.2.2.2.2.2.2.2.1 b hb).2.2, by rw [(s46 79 (by decide) b).2.2]; exact (g4 b hb).2⟩) (fun w7 a7 s7 r7 => ?_)
      have hw7 := a7.1.trans hw6
      have A37 : ag [66, 67, 80, 81, 82, 83, 84, 85, 86, 87, 88] w3 w7 := (a4.mono (by decide)).tr ((a5.mono (by decide)).tr ((a6.mono (by decide)).tr (a7.mono (by decide))))
      have f7 : ∀ b, b ≠ 18 → pw_I w7 61 b = pw_I w2 61 b := fun b hb => by rw [A37.I (by decide), fo b hb]
      have R7 : RMH (dH D') w7 := by
        refine ⟨⟨?_, ?_, ?_, ?_, ?_, ?_, ?_⟩, fun i hi => ?_, fun i hi => ?_, fun b hb => ?_, ?_⟩
        · rw [f7 51 (by decide)]; exact c51
        · rw [f7 52 (by decide)]; exact c52
        · rw [f7 53 (by decide)]; exact c53
        · rw [f7 54 (by decide)]; exact c54
        · rw [f7 55 (by decide)]; exact c55
        · rw [f7 56 (by decide)]; exact c56
        · rw [f7 21 (by decide)]; exact c21
        · obtain ⟨x1, x2, x3⟩ := s5 i hi
          rw [a7.I (by decide), a7.I (by decide), a7.I (by decide), a6.I (by decide), a6.I (by decide), a6.I (by decide), x1, x2, x3, (s46 71 (by decide) i).1, (s46 72 (by decide) i).1, (s46 73 (by decide) i).1]
          exact g2 i hi
        · obtain ⟨x1, x2, x3⟩ := s6 i hi
          rw [a7.I (by decide), a7.I (by decide), a7.I (by decide), x1, x2, x3, (s46 74 (by decide) i).2.1, (s46 75 (by decide) i).2.1, (s46 76 (by decide) i).2.1]
          exact g3 i hi
        · obtain ⟨x1, x2⟩ := s7 b hb
          rw [x1, x2, (s46 77 (by decide) b).2.2, (s46 79 (by decide) b).2.2]
          exact g4 b hb
        · by_cases hb : (dO D').testBit 3 = true
          · refine Or.inr ⟨?_, ?_, fun i hi => ?_⟩
            · rw [f7 25 (by decide), c25, jb_t hb]
            · rw [A37.I (by decide), e3, pw_same, hm2 hb]
            · obtain ⟨x1, x2⟩ := s4 i (by rw [hm2 hb]; exact hi)
              rw [a7.I (by decide), a7.I (by decide), a6.I (by decide), a6.I (by decide), a5.I (by decide), a5.I (by decide), x1, x2, src 64 (by decide), src 65 (by decide)]
              exact (q1 hb).2 i hi
          · refine Or.inl ⟨?_, q0 (by revert hb; cases (dO D').testBit 3 <;> simp)⟩
            rw [f7 25 (by decide), c25, jb_f hb]
      have O7 : RMR (dH D') (aRo (dH D')) w7 := fun b hb j hj => by
        rw [r7 b hb j hj, (s46 78 (by decide) _).2.2]; exact g5 b hb j hj
      refine tX10_layTold (h := dH D') hw7 R7 hh (fun w8 a8 s8 => ?_)
      have hw8 := a8.1.trans hw7
      refine bX10_hamlet_324 hw8 (tX10_keepAir hw8 (fun w9 a9 s9 => ?_))
      have hw9 := a9.1.trans hw8
      refine bX10_hamlet_328 hw9 ?_
      obtain ⟨wA, eA⟩ : ∃ wA, wA = pw_sI (pw_sI (pw_sI (pw_sI w9 61 63 0) 61 64 0) 61 78 0) 61 68 0 := ⟨_, rfl⟩
      rw [← eA]
      have hwA : wA.1 = cs t := by rw [eA]; exact hI (hI (hI (hI hw9)))
      have aA : agF [] [63, 64, 68, 78] w9 wA := by rw [eA]; exact (agF.sI (by decide)).tr ((agF.sI (by decide)).tr ((agF.sI (by decide)).tr (agF.sI (by decide))))
      refine mH5 hwA (fun wB aB sB => ?_)
      have fA : ∀ b, b ≠ 63 → b ≠ 64 → b ≠ 68 → b ≠ 78 → pw_I wB 61 b = pw_I w7 61 b := fun b x1 x2 x3 x4 => by
        rw [aB.I (by decide), aA.F List.not_mem_nil (by simp; omega), a9.I (by decide), a8.I (by decide)]
      have v51 : pw_I wA 61 51 = nI (aNp (dH D')) := by
        rw [aA.F List.not_mem_nil (by decide), a9.I (by decide), a8.I (by decide)]; exact R7.1.1
      rw [v51]
      have A7B : agF [66, 67, 80, 81, 82, 83, 84, 85, 86, 87, 88, 89, 90, 106] [18, 63, 64, 68, 78] w2 wB := (a3.mono (fun a h => absurd h List.not_mem_nil) (by decide)).tr ((agF.of (A37.mono (by decide))).tr ((agF.of (a8.mono (by decide))).tr ((agF.of (a9.mono (by decide))).tr ((aA.mono (fun a h => absurd h List.not_mem_nil) (by decide)).tr (agF.of (aB.mono (by decide)))))))
      have AB : agF (pcM ++ [66, 67, 80, 81, 82, 83, 84, 85, 86, 87, 88, 89, 90, 106]) (1 :: pfM ++ [18, 21, 25, 51, 52, 53, 54, 55, 56, 63, 64, 68, 78]) w wB := (a1.mono (by decide) (by decide)).tr ((a2.mono (fun a h => absurd h List.not_mem_nil) (by decide)).tr (A7B.mono (by decide) (by decide)))
      have RB : agF [89, 90, 106] [63, 64, 68, 78] w7 wB := (agF.of (a8.mono (by decide))).tr ((agF.of (a9.mono (by decide))).tr ((aA.mono (fun a h => absurd h List.not_mem_nil) (by decide)).tr (agF.of (aB.mono (by decide)))))
      have vA : ∀ b, b ∈ [63, 64, 68, 78] → pw_I wB 61 b = 0 := fun b hb => by
        rw [aB.I (by decide), eA]
        simp only [List.mem_cons, List.not_mem_nil, or_false] at hb
        rcases hb with rfl | rfl | rfl | rfl
        · rw [pw_oth (by decide), pw_oth (by decide), pw_oth (by decide), pw_same]
        · rw [pw_oth (by decide), pw_oth (by decide), pw_same]
        · rw [pw_same]
        · rw [pw_oth (by decide), pw_same]
      refine k1 D' hA wB ⟨R7.agF RB (by decide) (by decide), ?_, O7.agF RB (by decide), fun i hi => absurd hi (Nat.not_lt_zero i), fun i hi => ⟨?_, fun z => ?_⟩, fun i hi => absurd hi (Nat.not_lt_zero i), fun i hi => absurd hi (Nat.not_lt_zero i), fun i hi => absurd hi (Nat.not_lt_zero i), ⟨?_, ?_, ?_, vA 63 (by decide), vA 64 (by decide), vA 68 (by decide), vA 78 (by decide), ?_⟩⟩ (AB.m (by decide))
      · have s89 : RMS (dH D') (aTold (dH D')) w9 89 := s8.cp hh.1 s9
        exact (s89.agF hh.1 aA List.not_mem_nil (by decide)).ag aB (by decide)
      · rw [sB i hi]
        show (0 : Int32) = jb ((0 : Nat).testBit i = true)
        rw [Nat.zero_testBit]; rfl
      · have z : (0 : Nat).testBit i = true := z
        rw [Nat.zero_testBit] at z; cases z
      · rw [fA 1 (by decide) (by decide) (by decide) (by decide), f7 1 (by decide), a2.F List.not_mem_nil (by decide)]; exact f1
      · rw [fA 2 (by decide) (by decide) (by decide) (by decide), f7 2 (by decide), a2.F List.not_mem_nil (by decide)]; exact f2
      · rw [fA 3 (by decide) (by decide) (by decide) (by decide), f7 3 (by decide), a2.F List.not_mem_nil (by decide)]; exact f3
      · rw [AB.F (by decide) (by decide)]; exact hF.2.2.2.2.2.2.2
    have b01 : pw_I w1 61 24 = 0 ∨ pw_I w1 61 24 = 1 := by
      rw [o24]
      by_cases hb : (dO D').testBit 3 = true
      · exact Or.inr (jb_t hb)
      · exact Or.inl (jb_f hb)
    refine bX10_hamlet_4 hw1 (fun _ => b01) (fun _ z => ?_) (fun _ z => ?_) (fun z => absurd le z) <;> rw [← e2]
    · refine go 0 0 rfl (by decide) (fun hb => ?_)
      rw [o24, jb_t hb] at z; cases z
    · have hb : (dO D').testBit 3 = true := by
        by_cases hb : (dO D').testBit 3 = true
        · exact hb
        · rw [o24, jb_f hb] at z; exact absurd rfl z
      have l270 : (aPr (dH D')).length ≤ 270 := hh.2.2.2.2.2.2.2.2.2.2.2.2.2
      exact go _ (aPr (dH D')).length (q1 hb).1 (by omega) (fun _ => rfl)
  · have ng : ¬ pw_I w1 61 2 ≤ 0 := by rw [f2]; exact nI_ge (a := 0) (by omega) (by omega)
    refine bX10_hamlet_4 hw1 (fun z => absurd z ng) (fun z => absurd z ng) (fun z => absurd z ng) (fun _ => ?_)
    refine k0 e hA w1 ⟨hH.agF a1 (by decide) (by decide), hS.agF np a1 (by decide) (by decide), hO.agF a1 (by decide), hL.agF np a1 (by decide), hB.agF np a1 ⟨by decide, by decide⟩, hG.agF a1 (by decide), hY.agF a1 (by decide), fun i hi => absurd hi (Nat.not_lt_zero i), ⟨f1, f2, f3, ?_, ?_, ?_, ?_, ?_⟩⟩ (a1.m pcM_61)
    · rw [a1.F (by decide) (by decide)]; exact hF.2.2.2.1
    · rw [a1.F (by decide) (by decide)]; exact hF.2.2.2.2.1
    · rw [a1.F (by decide) (by decide)]; exact hF.2.2.2.2.2.1
    · rw [a1.F (by decide) (by decide)]; exact hF.2.2.2.2.2.2.1
    · rw [a1.F (by decide) (by decide)]; exact hF.2.2.2.2.2.2.2
end MHM
