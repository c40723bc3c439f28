section LPR
variable {E : px_E} {d : Nat} {w : pw_W} {t : ct_T} {g : GG}
theorem tw_day (hg : WG g) (hX : RX t g w) (hM : RM g w) : lTwo E d mX9_day mX10_day [] w := by
  refine tX9_day (d := d + 100) hg hX (fun n0 => ⟨_, t, rfl, hX.1, tX10_day (d := d + 100) hX.1 hg hM (fun _ => ⟨rfl, t, g, hg, hX, hM⟩) (fun c1 => absurd c1 n0)⟩) (fun c1 w1 x1 a1 => ?_)
  have hw : WG (gDo g (aDay (gH g) (aRo (gH g)) true (gS g))) := hg.do (by
    have hs := hg.s
    have h1 := hs.1.day (ro := aRo (gH g)) (fl := true) hg.1 (by omega)
    have h2 := (aWS.days (ro := aRo (gH g)) (fl := true) hg.1 hs.1 1 (by omega)).2
    exact ⟨h1, by have h2 : sD (aDay (gH g) (aRo (gH g)) true (gS g)) = sD (gS g) + 1 := h2; omega⟩)
  exact ⟨_, t, rfl, x1.1, tX10_day (d := d + 100) x1.1 hg (hM.agX a1) (fun n0 => absurd c1 n0) (fun _ w2 m2 a2 => ⟨rfl, t, _, hw, x1.agM hw a2, m2⟩)⟩
theorem tw_lesson {y1 : Int32} (hg : WG g) (hX : RX t g w) (hM : RM g w) : lTwo E d mX9_lesson mX10_lesson [.int y1] w := by
  refine tX9_lesson (d := d + 100) hg hX (fun n0 => ⟨_, t, rfl, hX.1, tX10_lesson (d := d + 100) hX.1 hg hM (fun _ => ⟨rfl, t, g, hg, hX, hM⟩) (fun c1 c2 => absurd ⟨c1, c2⟩ n0)⟩) (fun c1 c2 w1 x1 a1 => ?_)
  have hw : WG (gDo g (sSetF (gS g) (N y1) (sF (gS g) (N y1) + 1))) := hg.do ⟨hg.s.1.setF (by omega), hg.s.2⟩
  exact ⟨_, t, rfl, x1.1, tX10_lesson (d := d + 100) x1.1 hg (hM.agX a1) (fun n0 => absurd ⟨c1, c2⟩ n0) (fun _ _ w2 m2 a2 => ⟨rfl, t, _, hw, x1.agM hw a2, m2⟩)⟩
theorem tw_forbid {y1 : Int32} (hg : WG g) (hX : RX t g w) (hM : RM g w) : lTwo E d mX9_forbid mX10_forbid [.int y1] w := by
  refine tX9_forbid (d := d + 100) hg hX (fun n0 => ⟨_, t, rfl, hX.1, tX10_forbid (d := d + 100) hX.1 hg hM (fun _ => ⟨rfl, t, g, hg, hX, hM⟩) (fun c1 c2 => absurd ⟨c1, c2⟩ n0)⟩) (fun c1 c2 w1 x1 a1 => ?_)
  have hw : WG (gDo g (sSetB (gS g) (sB (gS g) ^^^ 2 ^ N y1))) := hg.do ⟨hg.s.1.setB (Nat.xor_lt_two_pow (n := 9) hg.s.1.2.1 (Nat.pow_lt_pow_right (by decide) (by have := hg.1.2.1; have := V_lt (by omega) c1; omega))), hg.s.2⟩
  exact ⟨_, t, rfl, x1.1, tX10_forbid (d := d + 100) x1.1 hg (hM.agX a1) (fun n0 => absurd ⟨c1, c2⟩ n0) (fun _ _ w2 m2 a2 => ⟨rfl, t, _, hw, x1.agM hw a2, m2⟩)⟩
theorem tw_allow {y1 : Int32} (hg : WG g) (hX : RX t g w) (hM : RM g w) : lTwo E d mX9_allow mX10_allow [.int y1] w := by
  refine tX9_allow (d := d + 100) hg hX (fun n0 => ⟨_, t, rfl, hX.1, tX10_allow (d := d + 100) hX.1 hg hM (fun _ => ⟨rfl, t, g, hg, hX, hM⟩) (fun c1 c2 => absurd ⟨c1, c2⟩ n0)⟩) (fun c1 c2 w1 x1 a1 => ?_)
  have hw : WG (gDo g (sSetB (gS g) (sB (gS g) ^^^ 2 ^ N y1))) := hg.do ⟨hg.s.1.setB (Nat.xor_lt_two_pow (n := 9) hg.s.1.2.1 (Nat.pow_lt_pow_right (by decide) (by have := hg.1.2.1; have := V_lt (by omega) c1; omega))), hg.s.2⟩
  exact ⟨_, t, rfl, x1.1, tX10_allow (d := d + 100) x1.1 hg (hM.agX a1) (fun n0 => absurd ⟨c1, c2⟩ n0) (fun _ _ w2 m2 a2 => ⟨rfl, t, _, hw, x1.agM hw a2, m2⟩)⟩
theorem tw_call {y1 y2 : Int32} (hg : WG g) (hX : RX t g w) (hM : RM g w) : lTwo E d mX9_call mX10_call [.int y1, .int y2] w := by
  refine tX9_call (d := d + 100) hg hX (fun n0 => ⟨_, t, rfl, hX.1, tX10_call (d := d + 100) hX.1 hg hM (fun _ => ⟨rfl, t, g, hg, hX, hM⟩) (fun c1 c2 c3 => absurd ⟨c1, c2, c3⟩ n0)⟩) (fun c1 c2 c3 w1 x1 a1 => ?_)
  have hw : WG (gDo g (aCl (gH g) (gS g) (N y1) (N y2))) := hg.do ⟨hg.s.1.cl _ _, hg.s.2⟩
  exact ⟨_, t, rfl, x1.1, tX10_call (d := d + 100) x1.1 hg (hM.agX a1) (fun n0 => absurd ⟨c1, c2, c3⟩ n0) (fun _ _ _ w2 m2 a2 => ⟨rfl, t, _, hw, x1.agM hw a2, m2⟩)⟩
theorem tw_undo (hg : WG g) (hX : RX t g w) (hM : RM g w) : lTwo E d mX9_undo mX10_undo [] w := by
  refine tX9_undo (d := d + 100) hg hX (fun n0 => ⟨_, t, rfl, hX.1, tX10_undo (d := d + 100) hX.1 hg hM (fun _ => ⟨rfl, t, g, hg, hX, hM⟩) (fun c => by omega)⟩) (fun c w1 x1 a1 => ?_)
  obtain ⟨h1, h2, h3, h4⟩ := hg.2.1
  have hw : WG (gAct g (gR g (gA g - 1)) (gR g) (gA g - 1) (gB g)) := hg.act rfl (by omega) h3 h4
  exact ⟨_, t, rfl, x1.1, tX10_undo (d := d + 100) x1.1 hg (hM.agX a1) (fun n0 => by omega) (fun _ w2 m2 a2 => ⟨rfl, t, _, hw, x1.agM hw a2, m2⟩)⟩
theorem tw_redo (hg : WG g) (hX : RX t g w) (hM : RM g w) : lTwo E d mX9_redo mX10_redo [] w := by
  refine tX9_redo (d := d + 100) hg hX (fun n0 => ⟨_, t, rfl, hX.1, tX10_redo (d := d + 100) hX.1 hg hM (fun _ => ⟨rfl, t, g, hg, hX, hM⟩) (fun c => by omega)⟩) (fun c w1 x1 a1 => ?_)
  obtain ⟨h1, h2, h3, h4⟩ := hg.2.1
  have hw : WG (gAct g (gR g (gA g + 1)) (gR g) (gA g + 1) (gB g)) := hg.act rfl (by omega) h3 h4
  exact ⟨_, t, rfl, x1.1, tX10_redo (d := d + 100) x1.1 hg (hM.agX a1) (fun n0 => by omega) (fun _ w2 m2 a2 => ⟨rfl, t, _, hw, x1.agM hw a2, m2⟩)⟩
theorem tw_feed {y1 y2 y3 y4 y5 : Int32} (hg : WG g) (hX : RX t g w) (hM : RM g w) : lTwo E d mX9_feed mX10_feed [.int y1, .int y2, .int y3, .int y4, .int y5] w := by
  refine tX9_feed (d := d + 100) hg hX (fun n0 => ⟨_, t, rfl, hX.1, tX10_feed (d := d + 100) hX.1 hg hM (fun _ => ⟨rfl, t, g, hg, hX, hM⟩) (fun c1 => absurd c1 n0)⟩) (fun c1 w1 x1 a1 => ?_)
  have hw : WG (gPut (gPut (gPut (gPut (gPut g y1) y2) y3) y4) y5) := by
    have e1 : gL (gPut g y1) = gL g + 4 := rfl
    have e2 : gL (gPut (gPut g y1) y2) = gL g + 4 + 4 := rfl
    have e3 : gL (gPut (gPut (gPut g y1) y2) y3) = gL g + 4 + 4 + 4 := rfl
    have e4 : gL (gPut (gPut (gPut (gPut g y1) y2) y3) y4) = gL g + 4 + 4 + 4 + 4 := rfl
    exact ((((hg.put (by omega)).put (by omega)).put (by omega)).put (by omega)).put (by omega)
  exact ⟨_, t, rfl, x1.1, tX10_feed (d := d + 100) x1.1 hg (hM.agX a1) (fun n0 => absurd c1 n0) (fun _ w2 m2 a2 => ⟨rfl, t, _, hw, x1.agM hw a2, m2⟩)⟩
theorem tw_end {y1 : Int32} (hg : WG g) (hX : RX t g w) (hM : RM g w) : lTwo E d mX9_end mX10_end [.int y1] w := by
  refine tX9_end (d := d + 100) hg hX (fun n0 => ⟨_, t, rfl, hX.1, tX10_end (d := d + 100) hX.1 hg hM (fun _ => ⟨rfl, t, g, hg, hX, hM⟩) (fun c1 => absurd c1 n0)⟩) (fun c1 w1 x1 a1 => ?_)
  have hw : WG (gTap g (gP g) (N y1)) := hg.tap (by have := hg.2.2.2.2.2.1; have := V_lt (by omega) c1; omega) hg.2.2.2.2.2.2
  exact ⟨_, t, rfl, x1.1, tX10_end (d := d + 100) x1.1 hg (hM.agX a1) (fun n0 => absurd c1 n0) (fun _ w2 m2 a2 => ⟨rfl, t, _, hw, x1.agM hw a2, m2⟩)⟩
theorem tw_seen {y1 y2 y3 y4 : Int32} (hg : WG g) (hX : RX t g w) (hM : RM g w) (hu : z1 y4) : lTwo E d mX9_seen mX10_seen [.int y1, .int y2, .int y3, .int y4] w := by
  refine tX9_seen (d := d + 100) hg hX hu (fun n0 => ⟨_, t, rfl, hX.1, tX10_seen (d := d + 100) hX.1 hg hM hu (fun _ => ⟨rfl, t, g, hg, hX, hM⟩) (fun c1 c2 c3 c4 => absurd ⟨c1, c2, c3, c4⟩ n0)⟩) (fun c1 c2 c3 c4 w1 x1 a1 => ?_)
  have hw : WG (gSeen g y1 y2 y3 y4) := by
    obtain ⟨q1, q2, q3⟩ := hg.2.2.2.1
    have n6 := hg.1.1
    have b1 := V_lt (by decide) c1
    have b2 := V_lt (by omega) c2
    have b3 := V_lt (by decide) c3
    have b4 : N y4 ≤ 1 := by rcases hu with e | e <;> rw [e] <;> decide
    refine hg.see ⟨by omega, q2, fun j hj => ?_⟩
    by_cases e : j = gN g
    · have s : ∀ k, seeQ (gG g) (gN g) (N y1) (N y2) (N y3) (N y4) (gT g) k j = [N y1, N y2, N y3, N y4, gT g, 0].getD k 0 := fun k => if_pos e
      rw [s 0, s 1, s 2, s 3, s 4, s 5]
      show N y1 ≤ 14 ∧ N y2 < aNp (gH g) ∧ N y3 ≤ 99 ∧ N y4 ≤ 1 ∧ gT g ≤ 100000 ∧ 0 ≤ 100001
      omega
    · have s : ∀ k, seeQ (gG g) (gN g) (N y1) (N y2) (N y3) (N y4) (gT g) k j = gG g k j := fun k => if_neg e
      rw [s 0, s 1, s 2, s 3, s 4, s 5]
      exact q3 j (by omega)
  exact ⟨_, t, rfl, x1.1, tX10_seen (d := d + 100) x1.1 hg (hM.agX a1) hu (fun n0 => absurd ⟨c1, c2, c3, c4⟩ n0) (fun _ _ _ _ w2 m2 a2 => ⟨rfl, t, _, hw, x1.agM hw a2, m2⟩)⟩
theorem tw_untell {y1 : Int32} (hg : WG g) (hX : RX t g w) (hM : RM g w) : lTwo E d mX9_untell mX10_untell [.int y1] w := by
  refine tX9_untell (d := d + 100) hg hX (fun n0 => ⟨_, t, rfl, hX.1, tX10_untell (d := d + 100) hX.1 hg hM (fun _ => ⟨rfl, t, g, hg, hX, hM⟩) (fun c1 c2 => absurd ⟨c1, c2⟩ n0)⟩) (fun c1 c2 w1 x1 a1 => ?_)
  have hw : WG (gUnt g y1) := by
    obtain ⟨q1, q2, q3⟩ := hg.2.2.2.1
    refine hg.see ⟨q1, q2, fun j hj => ?_⟩
    have s : ∀ k, k ≠ 5 → untQ (gG g) (N y1) (gT g + 1) k j = gG g k j := fun k hk => if_neg (fun z => hk z.1)
    rw [s 0 (by decide), s 1 (by decide), s 2 (by decide), s 3 (by decide), s 4 (by decide)]
    obtain ⟨r1, r2, r3, r4, r5, r6⟩ := q3 j hj
    refine ⟨r1, r2, r3, r4, r5, ?_⟩
    by_cases e : j = N y1
    · rw [show untQ (gG g) (N y1) (gT g + 1) 5 j = gT g + 1 from if_pos ⟨rfl, e⟩]; omega
    · rw [show untQ (gG g) (N y1) (gT g + 1) 5 j = gG g 5 j from if_neg (fun z => e z.2)]; exact r6
  exact ⟨_, t, rfl, x1.1, tX10_untell (d := d + 100) x1.1 hg (hM.agX a1) (fun n0 => absurd ⟨c1, c2⟩ n0) (fun _ _ w2 m2 a2 => ⟨rfl, t, _, hw, x1.agM hw a2, m2⟩)⟩
theorem tw_later {y1 : Int32} (hg : WG g) (hX : RX t g w) (hM : RM g w) : lTwo E d mX9_later mX10_later [.int y1] w := by
  refine tX9_later (d := d + 100) hg hX (fun n0 => ⟨_, t, rfl, hX.1, tX10_later (d := d + 100) hX.1 hg hM (fun _ => ⟨rfl, t, g, hg, hX, hM⟩) (fun c1 c2 => absurd ⟨c1, c2⟩ n0)⟩) (fun c1 c2 w1 x1 a1 => ?_)
  have hw : WG (gSee g (gG g) (gN g) (gT g + N y1)) := hg.see ⟨hg.2.2.2.1.1, c2, hg.2.2.2.1.2.2⟩
  exact ⟨_, t, rfl, x1.1, tX10_later (d := d + 100) x1.1 hg (hM.agX a1) (fun n0 => absurd ⟨c1, c2⟩ n0) (fun _ _ w2 m2 a2 => ⟨rfl, t, _, hw, x1.agM hw a2, m2⟩)⟩
theorem tw_image {y1 : Int32} (hg : WG g) (hX : RX t g w) (hM : RM g w) : lTwo E d mX9_image mX10_image [.int y1] w := by
  refine tX9_image (d := d + 100) hg hX (fun n0 => ⟨_, t, rfl, hX.1, tX10_image (d := d + 100) hX.1 hg hM (fun _ => ⟨rfl, t, g, hg, hX, hM⟩) (fun c1 => absurd c1 n0)⟩) (fun c1 w1 x1 a1 => ?_)
  have hw : WG (gImg g y1) := by
    have b1 := V_lt (by decide) c1
    refine hg.box (Nat.or_lt_two_pow (n := 3) hg.2.2.1.1 (Nat.pow_lt_pow_right (by decide) b1)) (fun i hi z => ?_)
    by_cases e : i = N y1
    · rw [e, za_us]; exact hg.s
    · rw [za_un e]
      rw [Nat.testBit_or, Nat.testBit_two_pow_of_ne (fun q => e q.symm), Bool.or_false] at z
      exact hg.2.2.1.2 i hi z
  exact ⟨_, t, rfl, x1.1, tX10_image (d := d + 100) x1.1 hg (hM.agX a1) (fun n0 => absurd c1 n0) (fun _ w2 m2 a2 => ⟨rfl, t, _, hw, x1.agM hw a2, m2⟩)⟩
theorem tw_back {y1 : Int32} (hg : WG g) (hX : RX t g w) (hM : RM g w) : lTwo E d mX9_back mX10_back [.int y1] w := by
  refine tX9_back (d := d + 100) hg hX (fun n0 => ⟨_, t, rfl, hX.1, tX10_back (d := d + 100) hX.1 hg hM (fun _ => ⟨rfl, t, g, hg, hX, hM⟩) (fun c1 c2 => absurd ⟨c1, c2⟩ n0)⟩) (fun c1 c2 w1 x1 a1 => ?_)
  have hw : WG (gBak g y1) := hg.act rfl (Nat.le_refl _) (by decide) (fun i hi => hg.2.2.1.2 _ (V_lt (by decide) c1) c2)
  exact ⟨_, t, rfl, x1.1, tX10_back (d := d + 100) x1.1 hg (hM.agX a1) (fun n0 => absurd ⟨c1, c2⟩ n0) (fun _ _ w2 m2 a2 => ⟨rfl, t, _, hw, x1.agM hw a2, m2⟩)⟩
end LPR
