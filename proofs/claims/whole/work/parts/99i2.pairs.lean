section LPR
variable {E : px_E} {d : Nat} {w : pw_W} {t : ct_T} {g : GG}
theorem tw_rounds {y1 y2 : Int32} (hg : WG g) (hX : RX t g w) (hM : RM g w) : lTwo E d mX9_rounds mX10_rounds [.int y1, .int y2] w := by
  have h0 : WG (gLie g (gY g) 0) := hg.lie (by decide)
  refine tX9_rounds (d := d + 100) hg hX (fun n0 w1 x1 a1 => ⟨_, t, rfl, x1.1, tX10_rounds (d := d + 100) x1.1 hg (hM.agX a1) (fun _ w2 m2 a2 => ⟨rfl, t, _, h0, x1.agM h0 a2, m2⟩) (fun c1 c2 => absurd ⟨c1, c2⟩ n0)⟩) (fun c1 c2 w1 x1 b1 => ?_)
  have hw : WG (gRounds g y1 y2) := hg.lie (hg.1.2.2.2.2.2.2.2.2.2.1 _ (V_lt (by have := hg.1.2.2.1; omega) c1)).2.2
  exact ⟨_, t, rfl, x1.1, tX10_rounds (d := d + 100) x1.1 hg (hM.agX b1) (fun n0 => absurd ⟨c1, c2⟩ n0) (fun _ _ w2 m2 a2 => ⟨rfl, t, _, hw, x1.agM hw a2, m2⟩)⟩
theorem tw_duel {y1 : Int32} (hg : WG g) (hX : RX t g w) (hM : RM g w) : lTwo E d mX9_duel mX10_duel [.int y1] w := by
  have h0 : WG (gLie g (gY g) 0) := hg.lie (by decide)
  refine tX9_duel (d := d + 100) hg hX (fun n0 w1 x1 a1 => ⟨_, t, rfl, x1.1, tX10_duel (d := d + 100) x1.1 hg (hM.agX a1) (fun _ w2 m2 a2 => ⟨rfl, t, _, h0, x1.agM h0 a2, m2⟩) (fun c1 => absurd c1 n0)⟩) (fun c1 w1 x1 b1 => ?_)
  have hw : WG (gDuel g (aDu (gH g) (gS g) (N y1) 4)) := by
    unfold gDuel
    split
    · exact h0
    · exact hg.lie (by decide)
  exact ⟨_, t, rfl, x1.1, tX10_duel (d := d + 100) x1.1 hg (hM.agX b1) (fun n0 => absurd c1 n0) (fun _ w2 m2 a2 => ⟨rfl, t, _, hw, x1.agM hw a2, m2⟩)⟩
theorem aPeA_one {h : aH} {s : aS} {n : Nat} {v u : Int32} (h1 : aPeA h s n v) (h2 : aPeA h s n u) : v = u := by
  rcases h1 with ⟨r, rfl, l1, l2, l3⟩ | ⟨rfl, l1⟩
  · rcases h2 with ⟨q, rfl, m1, m2, m3⟩ | ⟨rfl, m1⟩
    · have x1 := l3 q m1 m2
      have x2 := m3 r l1 l2
      rw [show r = q by omega]
    · exact absurd l2 (m1 r l1)
  · rcases h2 with ⟨q, rfl, m1, m2, m3⟩ | ⟨rfl, m1⟩
    · exact absurd m2 (l1 q m1)
    · rfl
theorem tw_peace {y1 y2 : Int32} (hg : WG g) (hX : RX t g w) (hM : RM g w) : lTwo E d mX9_peace mX10_peace [.int y1, .int y2] w := by
  refine tX9_peace (d := d + 100) hg hX (fun n0 => ⟨_, t, rfl, hX.1, tX10_peace (d := d + 100) hX.1 hg hM (fun _ => ⟨rfl, t, g, hg, hX, hM⟩) (fun c1 c2 => absurd ⟨c1, c2⟩ n0)⟩) (fun c1 c2 w1 v x1 b1 hv => ?_)
  exact ⟨_, t, rfl, x1.1, tX10_peace (d := d + 100) x1.1 hg (hM.agX b1) (fun n0 => absurd ⟨c1, c2⟩ n0) (fun _ _ w2 u m2 a2 hu => ⟨by rw [aPeA_one hv hu], t, g, hg, x1.agM hg a2, m2⟩)⟩
end LPR
