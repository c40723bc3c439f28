/-! both sides of every call of the law -/
def lOK (w : pw_W) : Prop := ∃ t g, WG g ∧ RX t g w ∧ RM g w
def lTwo (E : px_E) (d : Nat) (mX mM : pm_T) (as : List Value) (w : pw_W) : Prop := px_Call E (d + 120) 0 0 mX (.ref 1 :: as) w (fun v1 w1 => ∃ x t, v1 = some (.int x) ∧ w1.1 = cs t ∧ px_Call E (d + 120) 0 0 mM (.ref 61 :: as) w1 (fun v2 w2 => v2 = some (.int x) ∧ lOK w2))
section LPR
variable {E : px_E} {d : Nat} {w : pw_W} {t : ct_T} {g : GG}
theorem V_lt {n : Nat} {x : Int32} (hn : n < 2 ^ 31) (h : V n x) : N x < n := by
  obtain ⟨j, hj, -, e⟩ := V_of hn h
  omega
theorem tw_fault {a1 : Int32} (hg : WG g) (hX : RX t g w) (hM : RM g w) : lTwo E d mX9_fault mX10_fault [.int a1] w :=
  tX9_fault (d := d + 100) hX (fun w1 x1 a1 => ⟨_, t, rfl, x1.1, tX10_fault (d := d + 100) x1.1 (hM.agX a1) (fun w2 m2 a2 => ⟨rfl, t, g, hg, x1.agM hg a2, m2⟩)⟩)
theorem tw_person {a1 a2 : Int32} (hg : WG g) (hX : RX t g w) (hM : RM g w) : lTwo E d mX9_person mX10_person [.int a1, .int a2] w :=
  tX9_person (d := d + 100) hg hX (fun w1 x1 a1 => ⟨_, t, rfl, x1.1, tX10_person (d := d + 100) x1.1 hg (hM.agX a1) (fun w2 m2 a2 => ⟨rfl, t, g, hg, x1.agM hg a2, m2⟩)⟩)
theorem tw_meeting {a1 a2 : Int32} (hg : WG g) (hX : RX t g w) (hM : RM g w) : lTwo E d mX9_meeting mX10_meeting [.int a1, .int a2] w :=
  tX9_meeting (d := d + 100) hg hX (fun w1 x1 a1 => ⟨_, t, rfl, x1.1, tX10_meeting (d := d + 100) x1.1 hg (hM.agX a1) (fun w2 m2 a2 => ⟨rfl, t, g, hg, x1.agM hg a2, m2⟩)⟩)
theorem tw_brother {a1 a2 : Int32} (hg : WG g) (hX : RX t g w) (hM : RM g w) : lTwo E d mX9_brother mX10_brother [.int a1, .int a2] w :=
  tX9_brother (d := d + 100) hg hX (fun w1 x1 a1 => ⟨_, t, rfl, x1.1, tX10_brother (d := d + 100) x1.1 hg (hM.agX a1) (fun w2 m2 a2 => ⟨rfl, t, g, hg, x1.agM hg a2, m2⟩)⟩)
theorem tw_round {a1 a2 : Int32} (hg : WG g) (hX : RX t g w) (hM : RM g w) : lTwo E d mX9_round mX10_round [.int a1, .int a2] w :=
  tX9_round (d := d + 100) hg hX (fun w1 x1 a1 => ⟨_, t, rfl, x1.1, tX10_round (d := d + 100) x1.1 hg (hM.agX a1) (fun w2 m2 a2 => ⟨rfl, t, g, hg, x1.agM hg a2, m2⟩)⟩)
theorem tw_touch {a1 a2 : Int32} (hg : WG g) (hX : RX t g w) (hM : RM g w) : lTwo E d mX9_touch mX10_touch [.int a1, .int a2] w :=
  tX9_touch (d := d + 100) hg hX (fun w1 x1 a1 => ⟨_, t, rfl, x1.1, tX10_touch (d := d + 100) x1.1 hg (hM.agX a1) (fun w2 m2 a2 => ⟨rfl, t, g, hg, x1.agM hg a2, m2⟩)⟩)
theorem tw_abed (hg : WG g) (hX : RX t g w) (hM : RM g w) : lTwo E d mX9_abed mX10_abed [] w :=
  tX9_abed (d := d + 100) hg hX (fun w1 x1 a1 => ⟨_, t, rfl, x1.1, tX10_abed (d := d + 100) x1.1 hg (hM.agX a1) (fun w2 m2 a2 => ⟨rfl, t, g, hg, x1.agM hg a2, m2⟩)⟩)
theorem tw_will {a1 a2 a3 : Int32} (hg : WG g) (hX : RX t g w) (hM : RM g w) : lTwo E d mX9_will mX10_will [.int a1, .int a2, .int a3] w :=
  tX9_will (d := d + 100) hg hX (fun w1 x1 a1 => ⟨_, t, rfl, x1.1, tX10_will (d := d + 100) x1.1 hg (hM.agX a1) (fun w2 m2 a2 => ⟨rfl, t, g, hg, x1.agM hg a2, m2⟩)⟩)
theorem tw_firm {a1 a2 : Int32} (hg : WG g) (hX : RX t g w) (hM : RM g w) : lTwo E d mX9_firm mX10_firm [.int a1, .int a2] w :=
  tX9_firm (d := d + 100) hg hX (fun w1 x1 a1 => ⟨_, t, rfl, x1.1, tX10_firm (d := d + 100) x1.1 hg (hM.agX a1) (fun w2 m2 a2 => ⟨rfl, t, g, hg, x1.agM hg a2, m2⟩)⟩)
theorem tw_hurt {a1 : Int32} (hg : WG g) (hX : RX t g w) (hM : RM g w) : lTwo E d mX9_hurt mX10_hurt [.int a1] w :=
  tX9_hurt (d := d + 100) hg hX (fun w1 x1 a1 => ⟨_, t, rfl, x1.1, tX10_hurt (d := d + 100) x1.1 hg (hM.agX a1) (fun w2 m2 a2 => ⟨rfl, t, g, hg, x1.agM hg a2, m2⟩)⟩)
theorem tw_felled {a1 : Int32} (hg : WG g) (hX : RX t g w) (hM : RM g w) : lTwo E d mX9_felled mX10_felled [.int a1] w :=
  tX9_felled (d := d + 100) hg hX (fun w1 x1 a1 => ⟨_, t, rfl, x1.1, tX10_felled (d := d + 100) x1.1 hg (hM.agX a1) (fun w2 m2 a2 => ⟨rfl, t, g, hg, x1.agM hg a2, m2⟩)⟩)
theorem tw_grip {a1 a2 : Int32} (hg : WG g) (hX : RX t g w) (hM : RM g w) : lTwo E d mX9_grip mX10_grip [.int a1, .int a2] w :=
  tX9_grip (d := d + 100) hg hX (fun w1 x1 a1 => ⟨_, t, rfl, x1.1, tX10_grip (d := d + 100) x1.1 hg (hM.agX a1) (fun w2 m2 a2 => ⟨rfl, t, g, hg, x1.agM hg a2, m2⟩)⟩)
theorem tw_pupil {a1 a2 : Int32} (hg : WG g) (hX : RX t g w) (hM : RM g w) : lTwo E d mX9_pupil mX10_pupil [.int a1, .int a2] w :=
  tX9_pupil (d := d + 100) hg hX (fun w1 x1 a1 => ⟨_, t, rfl, x1.1, tX10_pupil (d := d + 100) x1.1 hg (hM.agX a1) (fun w2 m2 a2 => ⟨rfl, t, g, hg, x1.agM hg a2, m2⟩)⟩)
theorem tw_scourge {a1 : Int32} (hg : WG g) (hX : RX t g w) (hM : RM g w) : lTwo E d mX9_scourge mX10_scourge [.int a1] w :=
  tX9_scourge (d := d + 100) hg hX (fun w1 x1 a1 => ⟨_, t, rfl, x1.1, tX10_scourge (d := d + 100) x1.1 hg (hM.agX a1) (fun w2 m2 a2 => ⟨rfl, t, g, hg, x1.agM hg a2, m2⟩)⟩)
theorem tw_relief {a1 a2 : Int32} (hg : WG g) (hX : RX t g w) (hM : RM g w) : lTwo E d mX9_relief mX10_relief [.int a1, .int a2] w :=
  tX9_relief (d := d + 100) hg hX (fun w1 x1 a1 => ⟨_, t, rfl, x1.1, tX10_relief (d := d + 100) x1.1 hg (hM.agX a1) (fun w2 m2 a2 => ⟨rfl, t, g, hg, x1.agM hg a2, m2⟩)⟩)
theorem tw_rumour {a1 a2 : Int32} (hg : WG g) (hX : RX t g w) (hM : RM g w) : lTwo E d mX9_rumour mX10_rumour [.int a1, .int a2] w :=
  tX9_rumour (d := d + 100) hg hX (fun w1 x1 a1 => ⟨_, t, rfl, x1.1, tX10_rumour (d := d + 100) x1.1 hg (hM.agX a1) (fun w2 m2 a2 => ⟨rfl, t, g, hg, x1.agM hg a2, m2⟩)⟩)
theorem tw_manners (hg : WG g) (hX : RX t g w) (hM : RM g w) : lTwo E d mX9_manners mX10_manners [] w :=
  tX9_manners (d := d + 100) hg hX (fun w1 x1 a1 => ⟨_, t, rfl, x1.1, tX10_manners (d := d + 100) x1.1 hg (hM.agX a1) (fun w2 m2 a2 => ⟨rfl, t, g, hg, x1.agM hg a2, m2⟩)⟩)
theorem tw_sorest (hg : WG g) (hX : RX t g w) (hM : RM g w) : lTwo E d mX9_sorest mX10_sorest [] w :=
  tX9_sorest (d := d + 100) hg hX (fun w1 x1 a1 => ⟨_, t, rfl, x1.1, tX10_sorest (d := d + 100) x1.1 hg (hM.agX a1) (fun w2 m2 a2 => ⟨rfl, t, g, hg, x1.agM hg a2, m2⟩)⟩)
theorem tw_firmest (hg : WG g) (hX : RX t g w) (hM : RM g w) : lTwo E d mX9_firmest mX10_firmest [] w :=
  tX9_firmest (d := d + 100) hg hX (fun w1 x1 a1 => ⟨_, t, rfl, x1.1, tX10_firmest (d := d + 100) x1.1 hg (hM.agX a1) (fun w2 m2 a2 => ⟨rfl, t, g, hg, x1.agM hg a2, m2⟩)⟩)
theorem tw_due (hg : WG g) (hX : RX t g w) (hM : RM g w) : lTwo E d mX9_due mX10_due [] w :=
  tX9_due (d := d + 100) hg hX (fun w1 x1 a1 => ⟨_, t, rfl, x1.1, tX10_due (d := d + 100) x1.1 hg (hM.agX a1) (fun w2 m2 a2 => ⟨rfl, t, g, hg, x1.agM hg a2, m2⟩)⟩)
theorem tw_friends {a1 : Int32} (hg : WG g) (hX : RX t g w) (hM : RM g w) : lTwo E d mX9_friends mX10_friends [.int a1] w :=
  tX9_friends (d := d + 100) hg hX (fun w1 x1 a1 => ⟨_, t, rfl, x1.1, tX10_friends (d := d + 100) x1.1 hg (hM.agX a1) (fun w2 m2 a2 => ⟨rfl, t, g, hg, x1.agM hg a2, m2⟩)⟩)
theorem tw_uncared (hg : WG g) (hX : RX t g w) (hM : RM g w) : lTwo E d mX9_uncared mX10_uncared [] w :=
  tX9_uncared (d := d + 100) hg hX (fun w1 x1 a1 => ⟨_, t, rfl, x1.1, tX10_uncared (d := d + 100) x1.1 hg (hM.agX a1) (fun w2 m2 a2 => ⟨rfl, t, g, hg, x1.agM hg a2, m2⟩)⟩)
theorem tw_law {a1 : Int32} (hg : WG g) (hX : RX t g w) (hM : RM g w) : lTwo E d mX9_law mX10_law [.int a1] w :=
  tX9_law (d := d + 100) hg hX (fun w1 x1 a1 => ⟨_, t, rfl, x1.1, tX10_law (d := d + 100) x1.1 hg (hM.agX a1) (fun w2 m2 a2 => ⟨rfl, t, g, hg, x1.agM hg a2, m2⟩)⟩)
theorem tw_next {a1 : Int32} (hg : WG g) (hX : RX t g w) (hM : RM g w) : lTwo E d mX9_next mX10_next [.int a1] w :=
  tX9_next (d := d + 100) hg hX (fun w1 x1 a1 => ⟨_, t, rfl, x1.1, tX10_next (d := d + 100) x1.1 hg (hM.agX a1) (fun w2 m2 a2 => ⟨rfl, t, g, hg, x1.agM hg a2, m2⟩)⟩)
theorem tw_odds {a1 a2 : Int32} (hg : WG g) (hX : RX t g w) (hM : RM g w) : lTwo E d mX9_odds mX10_odds [.int a1, .int a2] w :=
  tX9_odds (d := d + 100) hg hX (fun w1 x1 a1 => ⟨_, t, rfl, x1.1, tX10_odds (d := d + 100) x1.1 hg (hM.agX a1) (fun w2 m2 a2 => ⟨rfl, t, g, hg, x1.agM hg a2, m2⟩)⟩)
theorem tw_lies {a1 : Int32} (hg : WG g) (hX : RX t g w) (hM : RM g w) : lTwo E d mX9_lies mX10_lies [.int a1] w :=
  tX9_lies (d := d + 100) hg hX (fun w1 x1 a1 => ⟨_, t, rfl, x1.1, tX10_lies (d := d + 100) x1.1 hg (hM.agX a1) (fun w2 m2 a2 => ⟨rfl, t, g, hg, x1.agM hg a2, m2⟩)⟩)
theorem tw_about {a1 : Int32} (hg : WG g) (hX : RX t g w) (hM : RM g w) : lTwo E d mX9_about mX10_about [.int a1] w :=
  tX9_about (d := d + 100) hg hX (fun w1 x1 a1 => ⟨_, t, rfl, x1.1, tX10_about (d := d + 100) x1.1 (hM.agX a1) (fun w2 m2 a2 => ⟨rfl, t, g, hg, x1.agM hg a2, m2⟩)⟩)
theorem tw_fits {a1 : Int32} (hg : WG g) (hX : RX t g w) (hM : RM g w) : lTwo E d mX9_fits mX10_fits [.int a1] w :=
  tX9_fits (d := d + 100) hg hX (fun w1 x1 a1 => ⟨_, t, rfl, x1.1, tX10_fits (d := d + 100) x1.1 hg (hM.agX a1) (fun w2 m2 a2 => ⟨rfl, t, g, hg, x1.agM hg a2, m2⟩)⟩)
theorem tw_sure {a1 a2 : Int32} (hg : WG g) (hX : RX t g w) (hM : RM g w) : lTwo E d mX9_sure mX10_sure [.int a1, .int a2] w :=
  tX9_sure (d := d + 100) hg hX (fun w1 x1 a1 => ⟨_, t, rfl, x1.1, tX10_sure (d := d + 100) x1.1 hg (hM.agX a1) (fun w2 m2 a2 => ⟨rfl, t, g, hg, x1.agM hg a2, m2⟩)⟩)
theorem tw_ask {a1 a2 a3 : Int32} (hg : WG g) (hX : RX t g w) (hM : RM g w) : lTwo E d mX9_ask mX10_ask [.int a1, .int a2, .int a3] w :=
  tX9_ask (d := d + 100) hg hX (fun w1 x1 a1 => ⟨_, t, rfl, x1.1, tX10_ask (d := d + 100) x1.1 hg (hM.agX a1) (fun w2 m2 a2 => ⟨rfl, t, g, hg, x1.agM hg a2, m2⟩)⟩)
theorem tw_day (hg : WG g) (hX : RX t g w) (hM : RM g w) : lTwo E d mX9_day mX10_day [] w := by
  refine tX9_day (d := d + 100) hg hX (fun n0 => ⟨_, t, rfl, hX.1, tX10_day (d := d + 100) hX.1 hg hM (fun _ => ⟨rfl, t, g, hg, hX, hM⟩) (fun c1 => absurd c1 n0)⟩) (fun c1 w1 x1 a1 => ?_)
  have hw : WG (gDo g (aDay (gH g) (aRo (gH g)) true (gS g))) := hg.do (by
    have hs := hg.s
    have h1 := hs.1.day (ro := aRo (gH g)) (fl := true) hg.1 (by omega)
    have h2 := (aWS.days (ro := aRo (gH g)) (fl := true) hg.1 hs.1 1 (by omega)).2
    exact ⟨h1, by have h2 : sD (aDay (gH g) (aRo (gH g)) true (gS g)) = sD (gS g) + 1 := h2; omega⟩)
  exact ⟨_, t, rfl, x1.1, tX10_day (d := d + 100) x1.1 hg (hM.agX a1) (fun n0 => absurd c1 n0) (fun _ w2 m2 a2 => ⟨rfl, t, _, hw, x1.agM hw a2, m2⟩)⟩
theorem tw_lesson {a1 : Int32} (hg : WG g) (hX : RX t g w) (hM : RM g w) : lTwo E d mX9_lesson mX10_lesson [.int a1] w := by
  refine tX9_lesson (d := d + 100) hg hX (fun n0 => ⟨_, t, rfl, hX.1, tX10_lesson (d := d + 100) hX.1 hg hM (fun _ => ⟨rfl, t, g, hg, hX, hM⟩) (fun c1 c2 => absurd ⟨c1, c2⟩ n0)⟩) (fun c1 c2 w1 x1 a1 => ?_)
  have hw : WG (gDo g (sSetF (gS g) (N a1) (sF (gS g) (N a1) + 1))) := hg.do ⟨hg.s.1.setF (by omega), hg.s.2⟩
  exact ⟨_, t, rfl, x1.1, tX10_lesson (d := d + 100) x1.1 hg (hM.agX a1) (fun n0 => absurd ⟨c1, c2⟩ n0) (fun _ _ w2 m2 a2 => ⟨rfl, t, _, hw, x1.agM hw a2, m2⟩)⟩
theorem tw_forbid {a1 : Int32} (hg : WG g) (hX : RX t g w) (hM : RM g w) : lTwo E d mX9_forbid mX10_forbid [.int a1] w := by
  refine tX9_forbid (d := d + 100) hg hX (fun n0 => ⟨_, t, rfl, hX.1, tX10_forbid (d := d + 100) hX.1 hg hM (fun _ => ⟨rfl, t, g, hg, hX, hM⟩) (fun c1 c2 => absurd ⟨c1, c2⟩ n0)⟩) (fun c1 c2 w1 x1 a1 => ?_)
  have hw : WG (gDo g (sSetB (gS g) (sB (gS g) ^^^ 2 ^ N a1))) := hg.do ⟨hg.s.1.setB (Nat.xor_lt_two_pow (n := 9) hg.s.1.2.1 (Nat.pow_lt_pow_right (by decide) (by have := hg.1.2.1; have := V_lt (by omega) c1; omega))), hg.s.2⟩
  exact ⟨_, t, rfl, x1.1, tX10_forbid (d := d + 100) x1.1 hg (hM.agX a1) (fun n0 => absurd ⟨c1, c2⟩ n0) (fun _ _ w2 m2 a2 => ⟨rfl, t, _, hw, x1.agM hw a2, m2⟩)⟩
theorem tw_allow {a1 : Int32} (hg : WG g) (hX : RX t g w) (hM : RM g w) : lTwo E d mX9_allow mX10_allow [.int a1] w := by
  refine tX9_allow (d := d + 100) hg hX (fun n0 => ⟨_, t, rfl, hX.1, tX10_allow (d := d + 100) hX.1 hg hM (fun _ => ⟨rfl, t, g, hg, hX, hM⟩) (fun c1 c2 => absurd ⟨c1, c2⟩ n0)⟩) (fun c1 c2 w1 x1 a1 => ?_)
  have hw : WG (gDo g (sSetB (gS g) (sB (gS g) ^^^ 2 ^ N a1))) := hg.do ⟨hg.s.1.setB (Nat.xor_lt_two_pow (n := 9) hg.s.1.2.1 (Nat.pow_lt_pow_right (by decide) (by have := hg.1.2.1; have := V_lt (by omega) c1; omega))), hg.s.2⟩
  exact ⟨_, t, rfl, x1.1, tX10_allow (d := d + 100) x1.1 hg (hM.agX a1) (fun n0 => absurd ⟨c1, c2⟩ n0) (fun _ _ w2 m2 a2 => ⟨rfl, t, _, hw, x1.agM hw a2, m2⟩)⟩
theorem tw_call {a1 a2 : Int32} (hg : WG g) (hX : RX t g w) (hM : RM g w) : lTwo E d mX9_call mX10_call [.int a1, .int a2] w := by
  refine tX9_call (d := d + 100) hg hX (fun n0 => ⟨_, t, rfl, hX.1, tX10_call (d := d + 100) hX.1 hg hM (fun _ => ⟨rfl, t, g, hg, hX, hM⟩) (fun c1 c2 c3 => absurd ⟨c1, c2, c3⟩ n0)⟩) (fun c1 c2 c3 w1 x1 a1 => ?_)
  have hw : WG (gDo g (aCl (gH g) (gS g) (N a1) (N a2))) := hg.do ⟨hg.s.1.cl _ _, hg.s.2⟩
  exact ⟨_, t, rfl, x1.1, tX10_call (d := d + 100) x1.1 hg (hM.agX a1) (fun n0 => absurd ⟨c1, c2, c3⟩ n0) (fun _ _ _ w2 m2 a2 => ⟨rfl, t, _, hw, x1.agM hw a2, m2⟩)⟩
theorem tw_undo (hg : WG g) (hX : RX t g w) (hM : RM g w) : lTwo E d mX9_undo mX10_undo [] w := by
  refine tX9_undo (d := d + 100) hg hX (fun n0 => ⟨_, t, rfl, hX.1, tX10_undo (d := d + 100) hX.1 hg hM (fun _ => ⟨rfl, t, g, hg, hX, hM⟩) (fun c => by omega)⟩) (fun c w1 x1 a1 => ?_)
  obtain ⟨h1, h2, h3, h4⟩ := hg.2.1
  have hw : WG (gAct g (gR g (gA g - 1)) (gR g) (gA g - 1) (gB g)) := hg.act rfl (by omega) h3 h4
  exact ⟨_, t, rfl, x1.1, tX10_undo (d := d + 100) x1.1 hg (hM.agX a1) (fun n0 => by omega) (fun _ w2 m2 a2 => ⟨rfl, t, _, hw, x1.agM hw a2, m2⟩)⟩
theorem tw_redo (hg : WG g) (hX : RX t g w) (hM : RM g w) : lTwo E d mX9_redo mX10_redo [] w := by
  refine tX9_redo (d := d + 100) hg hX (fun n0 => ⟨_, t, rfl, hX.1, tX10_redo (d := d + 100) hX.1 hg hM (fun _ => ⟨rfl, t, g, hg, hX, hM⟩) (fun c => by omega)⟩) (fun c w1 x1 a1 => ?_)
  obtain ⟨h1, h2, h3, h4⟩ := hg.2.1
  have hw : WG (gAct g (gR g (gA g + 1)) (gR g) (gA g + 1) (gB g)) := hg.act rfl (by omega) h3 h4
  exact ⟨_, t, rfl, x1.1, tX10_redo (d := d + 100) x1.1 hg (hM.agX a1) (fun n0 => by omega) (fun _ w2 m2 a2 => ⟨rfl, t, _, hw, x1.agM hw a2, m2⟩)⟩
theorem tw_feed {a1 a2 a3 a4 a5 : Int32} (hg : WG g) (hX : RX t g w) (hM : RM g w) : lTwo E d mX9_feed mX10_feed [.int a1, .int a2, .int a3, .int a4, .int a5] w := by
  refine tX9_feed (d := d + 100) hg hX (fun n0 => ⟨_, t, rfl, hX.1, tX10_feed (d := d + 100) hX.1 hg hM (fun _ => ⟨rfl, t, g, hg, hX, hM⟩) (fun c1 => absurd c1 n0)⟩) (fun c1 w1 x1 a1 => ?_)
  have hw : WG (gPut (gPut (gPut (gPut (gPut g a1) a2) a3) a4) a5) := by
    have e1 : gL (gPut g a1) = gL g + 4 := rfl
    have e2 : gL (gPut (gPut g a1) a2) = gL g + 4 + 4 := rfl
    have e3 : gL (gPut (gPut (gPut g a1) a2) a3) = gL g + 4 + 4 + 4 := rfl
    have e4 : gL (gPut (gPut (gPut (gPut g a1) a2) a3) a4) = gL g + 4 + 4 + 4 + 4 := rfl
    exact ((((hg.put (by omega)).put (by omega)).put (by omega)).put (by omega)).put (by omega)
  exact ⟨_, t, rfl, x1.1, tX10_feed (d := d + 100) x1.1 hg (hM.agX a1) (fun n0 => absurd c1 n0) (fun _ w2 m2 a2 => ⟨rfl, t, _, hw, x1.agM hw a2, m2⟩)⟩
theorem tw_end {a1 : Int32} (hg : WG g) (hX : RX t g w) (hM : RM g w) : lTwo E d mX9_end mX10_end [.int a1] w := by
  refine tX9_end (d := d + 100) hg hX (fun n0 => ⟨_, t, rfl, hX.1, tX10_end (d := d + 100) hX.1 hg hM (fun _ => ⟨rfl, t, g, hg, hX, hM⟩) (fun c1 => absurd c1 n0)⟩) (fun c1 w1 x1 a1 => ?_)
  have hw : WG (gTap g (gP g) (N a1)) := hg.tap (by have := hg.2.2.2.2.2.1; have := V_lt (by omega) c1; omega) hg.2.2.2.2.2.2
  exact ⟨_, t, rfl, x1.1, tX10_end (d := d + 100) x1.1 hg (hM.agX a1) (fun n0 => absurd c1 n0) (fun _ w2 m2 a2 => ⟨rfl, t, _, hw, x1.agM hw a2, m2⟩)⟩
theorem tw_seen {a1 a2 a3 a4 : Int32} (hg : WG g) (hX : RX t g w) (hM : RM g w) (hu : z1 a4) : lTwo E d mX9_seen mX10_seen [.int a1, .int a2, .int a3, .int a4] w := by
  refine tX9_seen (d := d + 100) hg hX hu (fun n0 => ⟨_, t, rfl, hX.1, tX10_seen (d := d + 100) hX.1 hg hM hu (fun _ => ⟨rfl, t, g, hg, hX, hM⟩) (fun c1 c2 c3 c4 => absurd ⟨c1, c2, c3, c4⟩ n0)⟩) (fun c1 c2 c3 c4 w1 x1 a1 => ?_)
  have hw : WG (gSeen g a1 a2 a3 a4) := by
    obtain ⟨q1, q2, q3⟩ := hg.2.2.2.1
    have n6 := hg.1.1
    have b1 := V_lt (by decide) c1
    have b2 := V_lt (by omega) c2
    have b3 := V_lt (by decide) c3
    have b4 : N a4 ≤ 1 := by rcases hu with e | e <;> rw [e] <;> decide
    refine hg.see ⟨by omega, q2, fun j hj => ?_⟩
    by_cases e : j = gN g
    · have s : ∀ k, seeQ (gG g) (gN g) (N a1) (N a2) (N a3) (N a4) (gT g) k j = [N a1, N a2, N a3, N a4, gT g, 0].getD k 0 := fun k => if_pos e
      rw [s 0, s 1, s 2, s 3, s 4, s 5]
      show N a1 ≤ 14 ∧ N a2 < aNp (gH g) ∧ N a3 ≤ 99 ∧ N a4 ≤ 1 ∧ gT g ≤ 100000 ∧ 0 ≤ 100001
      omega
    · have s : ∀ k, seeQ (gG g) (gN g) (N a1) (N a2) (N a3) (N a4) (gT g) k j = gG g k j := fun k => if_neg e
      rw [s 0, s 1, s 2, s 3, s 4, s 5]
      exact q3 j (by omega)
  exact ⟨_, t, rfl, x1.1, tX10_seen (d := d + 100) x1.1 hg (hM.agX a1) hu (fun n0 => absurd ⟨c1, c2, c3, c4⟩ n0) (fun _ _ _ _ w2 m2 a2 => ⟨rfl, t, _, hw, x1.agM hw a2, m2⟩)⟩
theorem tw_untell {a1 : Int32} (hg : WG g) (hX : RX t g w) (hM : RM g w) : lTwo E d mX9_untell mX10_untell [.int a1] w := by
  refine tX9_untell (d := d + 100) hg hX (fun n0 => ⟨_, t, rfl, hX.1, tX10_untell (d := d + 100) hX.1 hg hM (fun _ => ⟨rfl, t, g, hg, hX, hM⟩) (fun c1 c2 => absurd ⟨c1, c2⟩ n0)⟩) (fun c1 c2 w1 x1 a1 => ?_)
  have hw : WG (gUnt g a1) := by
    obtain ⟨q1, q2, q3⟩ := hg.2.2.2.1
    refine hg.see ⟨q1, q2, fun j hj => ?_⟩
    have s : ∀ k, k ≠ 5 → untQ (gG g) (N a1) (gT g + 1) k j = gG g k j := fun k hk => if_neg (fun z => hk z.1)
    rw [s 0 (by decide), s 1 (by decide), s 2 (by decide), s 3 (by decide), s 4 (by decide)]
    obtain ⟨r1, r2, r3, r4, r5, r6⟩ := q3 j hj
    refine ⟨r1, r2, r3, r4, r5, ?_⟩
    by_cases e : j = N a1
    · rw [show untQ (gG g) (N a1) (gT g + 1) 5 j = gT g + 1 from if_pos ⟨rfl, e⟩]; omega
    · rw [show untQ (gG g) (N a1) (gT g + 1) 5 j = gG g 5 j from if_neg (fun z => e z.2)]; exact r6
  exact ⟨_, t, rfl, x1.1, tX10_untell (d := d + 100) x1.1 hg (hM.agX a1) (fun n0 => absurd ⟨c1, c2⟩ n0) (fun _ _ w2 m2 a2 => ⟨rfl, t, _, hw, x1.agM hw a2, m2⟩)⟩
theorem tw_later {a1 : Int32} (hg : WG g) (hX : RX t g w) (hM : RM g w) : lTwo E d mX9_later mX10_later [.int a1] w := by
  refine tX9_later (d := d + 100) hg hX (fun n0 => ⟨_, t, rfl, hX.1, tX10_later (d := d + 100) hX.1 hg hM (fun _ => ⟨rfl, t, g, hg, hX, hM⟩) (fun c1 c2 => absurd ⟨c1, c2⟩ n0)⟩) (fun c1 c2 w1 x1 a1 => ?_)
  have hw : WG (gSee g (gG g) (gN g) (gT g + N a1)) := hg.see ⟨hg.2.2.2.1.1, c2, hg.2.2.2.1.2.2⟩
  exact ⟨_, t, rfl, x1.1, tX10_later (d := d + 100) x1.1 hg (hM.agX a1) (fun n0 => absurd ⟨c1, c2⟩ n0) (fun _ _ w2 m2 a2 => ⟨rfl, t, _, hw, x1.agM hw a2, m2⟩)⟩
theorem tw_image {a1 : Int32} (hg : WG g) (hX : RX t g w) (hM : RM g w) : lTwo E d mX9_image mX10_image [.int a1] w := by
  refine tX9_image (d := d + 100) hg hX (fun n0 => ⟨_, t, rfl, hX.1, tX10_image (d := d + 100) hX.1 hg hM (fun _ => ⟨rfl, t, g, hg, hX, hM⟩) (fun c1 => absurd c1 n0)⟩) (fun c1 w1 x1 a1 => ?_)
  have hw : WG (gImg g a1) := by
    have b1 := V_lt (by decide) c1
    refine hg.box (Nat.or_lt_two_pow (n := 3) hg.2.2.1.1 (Nat.pow_lt_pow_right (by decide) b1)) (fun i hi z => ?_)
    by_cases e : i = N a1
    · rw [e, za_us]; exact hg.s
    · rw [za_un e]
      rw [Nat.testBit_or, Nat.testBit_two_pow_of_ne (fun q => e q.symm), Bool.or_false] at z
      exact hg.2.2.1.2 i hi z
  exact ⟨_, t, rfl, x1.1, tX10_image (d := d + 100) x1.1 hg (hM.agX a1) (fun n0 => absurd c1 n0) (fun _ w2 m2 a2 => ⟨rfl, t, _, hw, x1.agM hw a2, m2⟩)⟩
theorem tw_back {a1 : Int32} (hg : WG g) (hX : RX t g w) (hM : RM g w) : lTwo E d mX9_back mX10_back [.int a1] w := by
  refine tX9_back (d := d + 100) hg hX (fun n0 => ⟨_, t, rfl, hX.1, tX10_back (d := d + 100) hX.1 hg hM (fun _ => ⟨rfl, t, g, hg, hX, hM⟩) (fun c1 c2 => absurd ⟨c1, c2⟩ n0)⟩) (fun c1 c2 w1 x1 a1 => ?_)
  have hw : WG (gBak g a1) := hg.act rfl (Nat.le_refl _) (by decide) (fun i hi => hg.2.2.1.2 _ (V_lt (by decide) c1) c2)
  exact ⟨_, t, rfl, x1.1, tX10_back (d := d + 100) x1.1 hg (hM.agX a1) (fun n0 => absurd ⟨c1, c2⟩ n0) (fun _ _ w2 m2 a2 => ⟨rfl, t, _, hw, x1.agM hw a2, m2⟩)⟩
theorem tw_rounds {a1 a2 : Int32} (hg : WG g) (hX : RX t g w) (hM : RM g w) : lTwo E d mX9_rounds mX10_rounds [.int a1, .int a2] w := by
  have h0 : WG (gLie g (gY g) 0) := hg.lie (by decide)
  refine tX9_rounds (d := d + 100) hg hX (fun n0 w1 x1 a1 => ⟨_, t, rfl, x1.1, tX10_rounds (d := d + 100) x1.1 hg (hM.agX a1) (fun _ w2 m2 a2 => ⟨rfl, t, _, h0, x1.agM h0 a2, m2⟩) (fun c1 c2 => absurd ⟨c1, c2⟩ n0)⟩) (fun c1 c2 w1 x1 b1 => ?_)
  have hw : WG (gRounds g a1 a2) := hg.lie (hg.1.2.2.2.2.2.2.2.2.2.1 _ (V_lt (by have := hg.1.2.2.1; omega) c1)).2.2
  exact ⟨_, t, rfl, x1.1, tX10_rounds (d := d + 100) x1.1 hg (hM.agX b1) (fun n0 => absurd ⟨c1, c2⟩ n0) (fun _ _ w2 m2 a2 => ⟨rfl, t, _, hw, x1.agM hw a2, m2⟩)⟩
theorem tw_duel {a1 : Int32} (hg : WG g) (hX : RX t g w) (hM : RM g w) : lTwo E d mX9_duel mX10_duel [.int a1] w := by
  have h0 : WG (gLie g (gY g) 0) := hg.lie (by decide)
  refine tX9_duel (d := d + 100) hg hX (fun n0 w1 x1 a1 => ⟨_, t, rfl, x1.1, tX10_duel (d := d + 100) x1.1 hg (hM.agX a1) (fun _ w2 m2 a2 => ⟨rfl, t, _, h0, x1.agM h0 a2, m2⟩) (fun c1 => absurd c1 n0)⟩) (fun c1 w1 x1 b1 => ?_)
  have hw : WG (gDuel g (aDu (gH g) (gS g) (N a1) 4)) := by
    unfold gDuel
    split
    · exact h0
    · exact hg.lie (by decide)
  exact ⟨_, t, rfl, x1.1, tX10_duel (d := d + 100) x1.1 hg (hM.agX b1) (fun n0 => absurd c1 n0) (fun _ w2 m2 a2 => ⟨rfl, t, _, hw, x1.agM hw a2, m2⟩)⟩
theorem tw_hamlet (hg : WG g) (hX : RX t g w) (hM : RM g w) : lTwo E d mX9_hamlet mX10_hamlet [] w := by
  refine tX9_hamlet (d := d) hg hX (fun D' hA hD t1 w1 x1 a1 => ?_) (fun e hA he t1 w1 x1 a1 => ?_)
  · have hw : WG (gHam g (dH D')) := hg.ham hD.1
    refine ⟨_, t1, rfl, x1.1, tX10_hamlet (d := d + 111) x1.1 hg (hM.agX a1) (fun D2 h2 w2 m2 a2 => ?_) (fun e2 h2 => ?_)⟩
    · rw [hA] at h2
      cases h2
      exact ⟨rfl, t1, _, hw, x1.agM hw a2, m2⟩
    · rw [hA] at h2; cases h2
  · have hw : WG (gFlt g e) := hg.flt
    refine ⟨_, t1, rfl, x1.1, tX10_hamlet (d := d + 111) x1.1 hg (hM.agX a1) (fun D2 h2 => ?_) (fun e2 h2 w2 m2 a2 => ?_)⟩
    · rw [hA] at h2; cases h2
    · rw [hA] at h2
      cases h2
      exact ⟨rfl, t1, _, hw, x1.agM hw a2, m2⟩
theorem aPeA_one {h : aH} {s : aS} {n : Nat} {v u : Int32} (h1 : aPeA h s n v) (h2 : aPeA h s n u) : v = u := by
  rcases h1 with ⟨r, rfl, l1, l2, l3⟩ | ⟨rfl, l1⟩
  · rcases h2 with ⟨q, rfl, m1, m2, m3⟩ | ⟨rfl, m1⟩
    · have x1 := l3 q m1 m2
      have x2 := m3 r l1 l2
      rw [show r = q by omega]
    · exact absurd l2 (m1 r l1)
  · rcases h2 with ⟨q, rfl, m1, m2, m3⟩ | ⟨rfl, m1⟩
    · exact absurd m2 (l1 q m1)
    · rfl
theorem tw_peace {a1 a2 : Int32} (hg : WG g) (hX : RX t g w) (hM : RM g w) : lTwo E d mX9_peace mX10_peace [.int a1, .int a2] w := by
  refine tX9_peace (d := d + 100) hg hX (fun n0 => ⟨_, t, rfl, hX.1, tX10_peace (d := d + 100) hX.1 hg hM (fun _ => ⟨rfl, t, g, hg, hX, hM⟩) (fun c1 c2 => absurd ⟨c1, c2⟩ n0)⟩) (fun c1 c2 w1 v x1 b1 hv => ?_)
  exact ⟨_, t, rfl, x1.1, tX10_peace (d := d + 100) x1.1 hg (hM.agX b1) (fun n0 => absurd ⟨c1, c2⟩ n0) (fun _ _ w2 u m2 a2 hu => ⟨by rw [aPeA_one hv hu], t, g, hg, x1.agM hg a2, m2⟩)⟩
theorem tw_evenings (hg : WG g) (hX : RX t g w) (hM : RM g w) : lTwo E d mX9_evenings mX10_evenings [] w := by
  refine tX9_evenings (d := d + 100) hg hX (fun w1 m x hv x1 b1 => ?_)
  refine ⟨_, t, rfl, x1.1, tX10_evenings (d := d + 100) x1.1 hg (hM.agX b1) (fun w2 m' x' hu m2 a2 => ?_)⟩
  have hw : WG (gEvn g m x) := hg.lie hg.1.1
  rcases hv with ⟨n0, e0⟩ | ⟨n1, v1, v2, v3, v4, v5, v6⟩
  · rcases hu with ⟨-, e1⟩ | ⟨n2, -⟩
    · subst e0
      subst e1
      obtain ⟨r1, r2, r3, r4, r5, r6, r7, r8⟩ := m2
      exact ⟨rfl, t, _, hw, x1.agM hw a2, r1, r2, r3, r4, r5, r6, fun i hi => absurd (show i < aNp (gH g) from hi) (by omega), r8⟩
    · omega
  · rcases hu with ⟨n2, -⟩ | ⟨n2, u1, u2, u3, u4, u5, u6⟩
    · omega
    · have em : m = m' := by
        rcases Nat.lt_trichotomy m m' with q | q | q
        · exact absurd v4 (u6 m v1 q x v3)
        · exact q
        · exact absurd u4 (v6 m' u1 q x' u3)
      subst em
      have ex : x = x' := by
        rcases Nat.lt_trichotomy x x' with q | q | q
        · exact absurd v4 (u5 x q)
        · exact q
        · exact absurd u4 (v5 x' q)
      subst ex
      exact ⟨rfl, t, _, hw, x1.agM hw a2, m2⟩
end LPR
