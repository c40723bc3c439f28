/-! both sides of every call of the law -/
def lOK (w : pw_W) : Prop := ∃ t g, WG g ∧ RX t g w ∧ RM g w
def lTwo (E : px_E) (d : Nat) (mX mM : pm_T) (as : List Value) (w : pw_W) : Prop := px_Call E (d + 120) 0 0 mX (.ref 1 :: as) w (fun v1 w1 => ∃ x t, v1 = some (.int x) ∧ w1.1 = cs t ∧ px_Call E (d + 120) 0 0 mM (.ref 61 :: as) w1 (fun v2 w2 => v2 = some (.int x) ∧ lOK w2))
section LPR
variable {E : px_E} {d : Nat} {w : pw_W} {t : ct_T} {g : GG}
theorem V_lt {n : Nat} {x : Int32} (hn : n < 2 ^ 31) (h : V n x) : N x < n := by
  obtain ⟨j, hj, -, e⟩ := V_of hn h
  omega
theorem tw_fault {y1 : Int32} (hg : WG g) (hX : RX t g w) (hM : RM g w) : lTwo E d mX9_fault mX10_fault [.int y1] w :=
  tX9_fault (d := d + 100) hX (fun w1 x1 a1 => ⟨_, t, rfl, x1.1, tX10_fault (d := d + 100) x1.1 (hM.agX a1) (fun w2 m2 a2 => ⟨rfl, t, g, hg, x1.agM hg a2, m2⟩)⟩)
theorem tw_person {y1 y2 : Int32} (hg : WG g) (hX : RX t g w) (hM : RM g w) : lTwo E d mX9_person mX10_person [.int y1, .int y2] w :=
  tX9_person (d := d + 100) hg hX (fun w1 x1 a1 => ⟨_, t, rfl, x1.1, tX10_person (d := d + 100) x1.1 hg (hM.agX a1) (fun w2 m2 a2 => ⟨rfl, t, g, hg, x1.agM hg a2, m2⟩)⟩)
theorem tw_meeting {y1 y2 : Int32} (hg : WG g) (hX : RX t g w) (hM : RM g w) : lTwo E d mX9_meeting mX10_meeting [.int y1, .int y2] w :=
  tX9_meeting (d := d + 100) hg hX (fun w1 x1 a1 => ⟨_, t, rfl, x1.1, tX10_meeting (d := d + 100) x1.1 hg (hM.agX a1) (fun w2 m2 a2 => ⟨rfl, t, g, hg, x1.agM hg a2, m2⟩)⟩)
theorem tw_brother {y1 y2 : Int32} (hg : WG g) (hX : RX t g w) (hM : RM g w) : lTwo E d mX9_brother mX10_brother [.int y1, .int y2] w :=
  tX9_brother (d := d + 100) hg hX (fun w1 x1 a1 => ⟨_, t, rfl, x1.1, tX10_brother (d := d + 100) x1.1 hg (hM.agX a1) (fun w2 m2 a2 => ⟨rfl, t, g, hg, x1.agM hg a2, m2⟩)⟩)
theorem tw_round {y1 y2 : Int32} (hg : WG g) (hX : RX t g w) (hM : RM g w) : lTwo E d mX9_round mX10_round [.int y1, .int y2] w :=
  tX9_round (d := d + 100) hg hX (fun w1 x1 a1 => ⟨_, t, rfl, x1.1, tX10_round (d := d + 100) x1.1 hg (hM.agX a1) (fun w2 m2 a2 => ⟨rfl, t, g, hg, x1.agM hg a2, m2⟩)⟩)
theorem tw_touch {y1 y2 : Int32} (hg : WG g) (hX : RX t g w) (hM : RM g w) : lTwo E d mX9_touch mX10_touch [.int y1, .int y2] w :=
  tX9_touch (d := d + 100) hg hX (fun w1 x1 a1 => ⟨_, t, rfl, x1.1, tX10_touch (d := d + 100) x1.1 hg (hM.agX a1) (fun w2 m2 a2 => ⟨rfl, t, g, hg, x1.agM hg a2, m2⟩)⟩)
theorem tw_abed (hg : WG g) (hX : RX t g w) (hM : RM g w) : lTwo E d mX9_abed mX10_abed [] w :=
  tX9_abed (d := d + 100) hg hX (fun w1 x1 a1 => ⟨_, t, rfl, x1.1, tX10_abed (d := d + 100) x1.1 hg (hM.agX a1) (fun w2 m2 a2 => ⟨rfl, t, g, hg, x1.agM hg a2, m2⟩)⟩)
theorem tw_will {y1 y2 y3 : Int32} (hg : WG g) (hX : RX t g w) (hM : RM g w) : lTwo E d mX9_will mX10_will [.int y1, .int y2, .int y3] w :=
  tX9_will (d := d + 100) hg hX (fun w1 x1 a1 => ⟨_, t, rfl, x1.1, tX10_will (d := d + 100) x1.1 hg (hM.agX a1) (fun w2 m2 a2 => ⟨rfl, t, g, hg, x1.agM hg a2, m2⟩)⟩)
theorem tw_firm {y1 y2 : Int32} (hg : WG g) (hX : RX t g w) (hM : RM g w) : lTwo E d mX9_firm mX10_firm [.int y1, .int y2] w :=
  tX9_firm (d := d + 100) hg hX (fun w1 x1 a1 => ⟨_, t, rfl, x1.1, tX10_firm (d := d + 100) x1.1 hg (hM.agX a1) (fun w2 m2 a2 => ⟨rfl, t, g, hg, x1.agM hg a2, m2⟩)⟩)
theorem tw_hurt {y1 : Int32} (hg : WG g) (hX : RX t g w) (hM : RM g w) : lTwo E d mX9_hurt mX10_hurt [.int y1] w :=
  tX9_hurt (d := d + 100) hg hX (fun w1 x1 a1 => ⟨_, t, rfl, x1.1, tX10_hurt (d := d + 100) x1.1 hg (hM.agX a1) (fun w2 m2 a2 => ⟨rfl, t, g, hg, x1.agM hg a2, m2⟩)⟩)
theorem tw_felled {y1 : Int32} (hg : WG g) (hX : RX t g w) (hM : RM g w) : lTwo E d mX9_felled mX10_felled [.int y1] w :=
  tX9_felled (d := d + 100) hg hX (fun w1 x1 a1 => ⟨_, t, rfl, x1.1, tX10_felled (d := d + 100) x1.1 hg (hM.agX a1) (fun w2 m2 a2 => ⟨rfl, t, g, hg, x1.agM hg a2, m2⟩)⟩)
theorem tw_grip {y1 y2 : Int32} (hg : WG g) (hX : RX t g w) (hM : RM g w) : lTwo E d mX9_grip mX10_grip [.int y1, .int y2] w :=
  tX9_grip (d := d + 100) hg hX (fun w1 x1 a1 => ⟨_, t, rfl, x1.1, tX10_grip (d := d + 100) x1.1 hg (hM.agX a1) (fun w2 m2 a2 => ⟨rfl, t, g, hg, x1.agM hg a2, m2⟩)⟩)
theorem tw_pupil {y1 y2 : Int32} (hg : WG g) (hX : RX t g w) (hM : RM g w) : lTwo E d mX9_pupil mX10_pupil [.int y1, .int y2] w :=
  tX9_pupil (d := d + 100) hg hX (fun w1 x1 a1 => ⟨_, t, rfl, x1.1, tX10_pupil (d := d + 100) x1.1 hg (hM.agX a1) (fun w2 m2 a2 => ⟨rfl, t, g, hg, x1.agM hg a2, m2⟩)⟩)
theorem tw_scourge {y1 : Int32} (hg : WG g) (hX : RX t g w) (hM : RM g w) : lTwo E d mX9_scourge mX10_scourge [.int y1] w :=
  tX9_scourge (d := d + 100) hg hX (fun w1 x1 a1 => ⟨_, t, rfl, x1.1, tX10_scourge (d := d + 100) x1.1 hg (hM.agX a1) (fun w2 m2 a2 => ⟨rfl, t, g, hg, x1.agM hg a2, m2⟩)⟩)
theorem tw_relief {y1 y2 : Int32} (hg : WG g) (hX : RX t g w) (hM : RM g w) : lTwo E d mX9_relief mX10_relief [.int y1, .int y2] w :=
  tX9_relief (d := d + 100) hg hX (fun w1 x1 a1 => ⟨_, t, rfl, x1.1, tX10_relief (d := d + 100) x1.1 hg (hM.agX a1) (fun w2 m2 a2 => ⟨rfl, t, g, hg, x1.agM hg a2, m2⟩)⟩)
theorem tw_rumour {y1 y2 : Int32} (hg : WG g) (hX : RX t g w) (hM : RM g w) : lTwo E d mX9_rumour mX10_rumour [.int y1, .int y2] w :=
  tX9_rumour (d := d + 100) hg hX (fun w1 x1 a1 => ⟨_, t, rfl, x1.1, tX10_rumour (d := d + 100) x1.1 hg (hM.agX a1) (fun w2 m2 a2 => ⟨rfl, t, g, hg, x1.agM hg a2, m2⟩)⟩)
theorem tw_manners (hg : WG g) (hX : RX t g w) (hM : RM g w) : lTwo E d mX9_manners mX10_manners [] w :=
  tX9_manners (d := d + 100) hg hX (fun w1 x1 a1 => ⟨_, t, rfl, x1.1, tX10_manners (d := d + 100) x1.1 hg (hM.agX a1) (fun w2 m2 a2 => ⟨rfl, t, g, hg, x1.agM hg a2, m2⟩)⟩)
theorem tw_sorest (hg : WG g) (hX : RX t g w) (hM : RM g w) : lTwo E d mX9_sorest mX10_sorest [] w :=
  tX9_sorest (d := d + 100) hg hX (fun w1 x1 a1 => ⟨_, t, rfl, x1.1, tX10_sorest (d := d + 100) x1.1 hg (hM.agX a1) (fun w2 m2 a2 => ⟨rfl, t, g, hg, x1.agM hg a2, m2⟩)⟩)
theorem tw_firmest (hg : WG g) (hX : RX t g w) (hM : RM g w) : lTwo E d mX9_firmest mX10_firmest [] w :=
  tX9_firmest (d := d + 100) hg hX (fun w1 x1 a1 => ⟨_, t, rfl, x1.1, tX10_firmest (d := d + 100) x1.1 hg (hM.agX a1) (fun w2 m2 a2 => ⟨rfl, t, g, hg, x1.agM hg a2, m2⟩)⟩)
theorem tw_due (hg : WG g) (hX : RX t g w) (hM : RM g w) : lTwo E d mX9_due mX10_due [] w :=
  tX9_due (d := d + 100) hg hX (fun w1 x1 a1 => ⟨_, t, rfl, x1.1, tX10_due (d := d + 100) x1.1 hg (hM.agX a1) (fun w2 m2 a2 => ⟨rfl, t, g, hg, x1.agM hg a2, m2⟩)⟩)
theorem tw_friends {y1 : Int32} (hg : WG g) (hX : RX t g w) (hM : RM g w) : lTwo E d mX9_friends mX10_friends [.int y1] w :=
  tX9_friends (d := d + 100) hg hX (fun w1 x1 a1 => ⟨_, t, rfl, x1.1, tX10_friends (d := d + 100) x1.1 hg (hM.agX a1) (fun w2 m2 a2 => ⟨rfl, t, g, hg, x1.agM hg a2, m2⟩)⟩)
theorem tw_uncared (hg : WG g) (hX : RX t g w) (hM : RM g w) : lTwo E d mX9_uncared mX10_uncared [] w :=
  tX9_uncared (d := d + 100) hg hX (fun w1 x1 a1 => ⟨_, t, rfl, x1.1, tX10_uncared (d := d + 100) x1.1 hg (hM.agX a1) (fun w2 m2 a2 => ⟨rfl, t, g, hg, x1.agM hg a2, m2⟩)⟩)
theorem tw_law {y1 : Int32} (hg : WG g) (hX : RX t g w) (hM : RM g w) : lTwo E d mX9_law mX10_law [.int y1] w :=
  tX9_law (d := d + 100) hg hX (fun w1 x1 a1 => ⟨_, t, rfl, x1.1, tX10_law (d := d + 100) x1.1 hg (hM.agX a1) (fun w2 m2 a2 => ⟨rfl, t, g, hg, x1.agM hg a2, m2⟩)⟩)
theorem tw_next {y1 : Int32} (hg : WG g) (hX : RX t g w) (hM : RM g w) : lTwo E d mX9_next mX10_next [.int y1] w :=
  tX9_next (d := d + 100) hg hX (fun w1 x1 a1 => ⟨_, t, rfl, x1.1, tX10_next (d := d + 100) x1.1 hg (hM.agX a1) (fun w2 m2 a2 => ⟨rfl, t, g, hg, x1.agM hg a2, m2⟩)⟩)
theorem tw_odds {y1 y2 : Int32} (hg : WG g) (hX : RX t g w) (hM : RM g w) : lTwo E d mX9_odds mX10_odds [.int y1, .int y2] w :=
  tX9_odds (d := d + 100) hg hX (fun w1 x1 a1 => ⟨_, t, rfl, x1.1, tX10_odds (d := d + 100) x1.1 hg (hM.agX a1) (fun w2 m2 a2 => ⟨rfl, t, g, hg, x1.agM hg a2, m2⟩)⟩)
theorem tw_lies {y1 : Int32} (hg : WG g) (hX : RX t g w) (hM : RM g w) : lTwo E d mX9_lies mX10_lies [.int y1] w :=
  tX9_lies (d := d + 100) hg hX (fun w1 x1 a1 => ⟨_, t, rfl, x1.1, tX10_lies (d := d + 100) x1.1 hg (hM.agX a1) (fun w2 m2 a2 => ⟨rfl, t, g, hg, x1.agM hg a2, m2⟩)⟩)
theorem tw_about {y1 : Int32} (hg : WG g) (hX : RX t g w) (hM : RM g w) : lTwo E d mX9_about mX10_about [.int y1] w :=
  tX9_about (d := d + 100) hg hX (fun w1 x1 a1 => ⟨_, t, rfl, x1.1, tX10_about (d := d + 100) x1.1 (hM.agX a1) (fun w2 m2 a2 => ⟨rfl, t, g, hg, x1.agM hg a2, m2⟩)⟩)
theorem tw_fits {y1 : Int32} (hg : WG g) (hX : RX t g w) (hM : RM g w) : lTwo E d mX9_fits mX10_fits [.int y1] w :=
  tX9_fits (d := d + 100) hg hX (fun w1 x1 a1 => ⟨_, t, rfl, x1.1, tX10_fits (d := d + 100) x1.1 hg (hM.agX a1) (fun w2 m2 a2 => ⟨rfl, t, g, hg, x1.agM hg a2, m2⟩)⟩)
theorem tw_sure {y1 y2 : Int32} (hg : WG g) (hX : RX t g w) (hM : RM g w) : lTwo E d mX9_sure mX10_sure [.int y1, .int y2] w :=
  tX9_sure (d := d + 100) hg hX (fun w1 x1 a1 => ⟨_, t, rfl, x1.1, tX10_sure (d := d + 100) x1.1 hg (hM.agX a1) (fun w2 m2 a2 => ⟨rfl, t, g, hg, x1.agM hg a2, m2⟩)⟩)
theorem tw_ask {y1 y2 y3 : Int32} (hg : WG g) (hX : RX t g w) (hM : RM g w) : lTwo E d mX9_ask mX10_ask [.int y1, .int y2, .int y3] w :=
  tX9_ask (d := d + 100) hg hX (fun w1 x1 a1 => ⟨_, t, rfl, x1.1, tX10_ask (d := d + 100) x1.1 hg (hM.agX a1) (fun w2 m2 a2 => ⟨rfl, t, g, hg, x1.agM hg a2, m2⟩)⟩)
end LPR
