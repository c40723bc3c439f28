/-! what the calls answer -/
abbrev V (n : Nat) (x : Int32) : Prop := ¬ x < 0 ∧ ¬ nI n ≤ x
abbrev z1 (x : Int32) : Prop := x = 0 ∨ x = 1
def N (x : Int32) : Nat := x.toNatClampNeg
theorem N_of {j : Nat} (h : j < 2 ^ 31) : N (nI j) = j := nI_clamp h
theorem V_of {n : Nat} {x : Int32} (hn : n < 2 ^ 31) (h : V n x) : ∃ j, j < n ∧ x = nI j ∧ N x = j := by
  obtain ⟨j, hj, rfl⟩ := nI_of h.1
  exact ⟨j, za_nle hn hj h.2, rfl, N_of hj⟩
theorem V_mk {n j : Nat} (hn : n < 2 ^ 31) (h : j < n) : V n (nI j) := ⟨nI_pos (by omega), fun z => by have := za_le hn (by omega) z; omega⟩
theorem V_le {n : Nat} {x : Int32} (hn : n + 1 < 2 ^ 31) : (¬ x < 0 ∧ ¬ nI n < x) ↔ V (n + 1) x := by
  constructor
  · rintro ⟨h1, h2⟩
    obtain ⟨j, hj, rfl⟩ := nI_of h1
    exact V_mk hn (by have := za_nlt (by omega) hj h2; omega)
  · intro h
    obtain ⟨j, hj, rfl, -⟩ := V_of hn h
    exact ⟨h.1, fun z => by have := za_lt (by omega) (by omega) z; omega⟩
theorem V_pred {n : Nat} {x : Int32} (hn : n < 2 ^ 31) : (¬ x < 0 ∧ ¬ nI n - 1 < x) ↔ V n x := by
  cases n with
  | zero =>
    constructor
    · rintro ⟨h1, h2⟩
      exact absurd (Int32.lt_of_lt_of_le (show nI 0 - 1 < 0 by decide) (Int32.not_lt.mp h1)) h2
    · intro h
      exact absurd (Int32.not_lt.mp h.1) h.2
  | succ n => rw [nI_pred]; exact V_le hn
theorem z1_in (x : Int32) : (¬ x < 0 ∧ ¬ (1 : Int32) < x) ↔ z1 x := by
  have := V_le (n := 1) (x := x) (by decide)
  rw [show (1 : Int32) = nI 1 from rfl, this]
  constructor
  · intro h
    obtain ⟨j, hj, rfl, -⟩ := V_of (by decide) h
    match j, hj with
    | 0, _ => exact Or.inl rfl
    | 1, _ => exact Or.inr rfl
  · rintro (rfl | rfl)
    · exact V_mk (j := 0) (by decide) (by decide)
    · exact V_mk (j := 1) (by decide) (by decide)
def fFault (g : GG) (x : Int32) : Int32 := if x = 0 then gK g else if x = 1 then gF g else -1
def fPerson (g : GG) (x y : Int32) : Int32 := if V (aNp (gH g)) x then (if y = 0 then nI (sF (gS g) (N x)) else if y = 1 then nI (aLe (gH g) (N x)) else if y = 2 then nI (sL (gS g) (N x)) else if y = 3 then jb (aBd (gH g) ≤ sL (gS g) (N x)) else -1) else -1
def fMeeting (g : GG) (x y : Int32) : Int32 := if V (aNm (gH g)) x then (if y = 0 then nI (aFi (gH g) (N x)) else if y = 1 then nI (aSe (gH g) (N x)) else if y = 2 then nI (aWk (gH g) (N x)) else if y = 3 then jb ((sB (gS g)).testBit (N x) = true) else -1) else -1
def fBrother (g : GG) (x y : Int32) : Int32 := if V (aNb (gH g)) x then (if y = 0 then nI (aCo (gH g) (N x)) else if y = 1 then nI (aRs (gH g) (N x)) else -1) else -1
def fRound (g : GG) (x y : Int32) : Int32 := if V (aNb (gH g)) x ∧ V (aRs (gH g) (N x)) y then nI (aRo (gH g) (6 * N x + N y)) else -1
def fTo (g : GG) (p o : Nat) : Nat := aEv (gH g) (sF (gS g) p) (sF (gS g) o) (sL (gS g) p) (sD (gS g))
def fTouch (g : GG) (x y : Int32) : Int32 := if V (aNm (gH g)) x ∧ z1 y then (if y = 0 then nI (fTo g (aFi (gH g) (N x)) (aSe (gH g) (N x))) else nI (fTo g (aSe (gH g) (N x)) (aFi (gH g) (N x)))) else -1
def fAbed (g : GG) : Int32 := nI (aAb (gH g) (gS g))
def gD (g : GG) (fl : Bool) (n : Nat) : aS := aDays (gH g) (aRo (gH g)) fl n (gS g)
def fWill (g : GG) (x y z : Int32) : Int32 := if V (aNp (gH g)) x ∧ V 61 y ∧ z1 z then (if z = 1 then nI (sL (gD g true (N y)) (N x)) else nI (sL (gD g false (N y)) (N x))) else -1
def fFirm (g : GG) (x y : Int32) : Int32 := if V (aNp (gH g)) x ∧ V 61 y then nI (sF (gD g false (N y)) (N x)) else -1
def fHurt (g : GG) (x : Int32) : Int32 := if V 61 x then nI (aHurt (gH g) (gD g false (N x))) else -1
def fFelled (g : GG) (x : Int32) : Int32 := if V (aNp (gH g)) x then aTill (gH g) (aRo (gH g)) (2 ^ N x) 60 0 (gS g) else -1
def fGrip (g : GG) (x y : Int32) : Int32 := if V (aNp (gH g)) x ∧ V 31 y then aGr (gH g) (aRo (gH g)) (N x) (N y) (gS g) 31 0 else -1
def fCh (o : Option (Nat × Nat)) (z : Int32) : Int32 := match o with
  | none => -1
  | some q => if z = 0 then nI q.1 else nI q.2
def fPupil (g : GG) (x y : Int32) : Int32 := if V 31 x ∧ z1 y then fCh (aBst (fPup (gH g) (gS g) (N x)) (aNp (gH g))) y else -1
def fScourge (g : GG) (y : Int32) : Int32 := if z1 y then fCh (aBst (fSco (gH g) (gS g)) (aNp (gH g))) y else -1
def fRelief (g : GG) (x y : Int32) : Int32 := if V (aNb (gH g)) x ∧ z1 y then fCh (aBst (fRel (gH g) (gS g) (N x)) (aNp (gH g))) y else -1
def fRumour (g : GG) (x y : Int32) : Int32 := if V (aNp (gH g)) x ∧ V (aNp (gH g)) y then aRu (gH g) (sB (gS g)) (N y) (aNp (gH g)) 0 (2 ^ N x) else -1
def fManners (g : GG) : Int32 := aMan (gH g) (aRo (gH g)) 67 1 0 (gS g)
def fSorest (g : GG) : Int32 := aOp (aGtK (sL (gS g)) (aNp (gH g)))
def fFirmest (g : GG) : Int32 := aOp (aGtK (sF (gS g)) (aNp (gH g)))
def aDuK (h : aH) (s : aS) : Nat → Nat
  | 0 => 0
  | k + 1 => if aTp h s k then aDuK h s k ||| 2 ^ k else aDuK h s k
theorem aDuK_s (h : aH) (s : aS) (k : Nat) : aDuK h s (k + 1) = if aTp h s k then aDuK h s k ||| 2 ^ k else aDuK h s k := rfl
def fDue (g : GG) : Int32 := nI (aDuK (gH g) (gS g) (aNm (gH g)))
def fFriends (g : GG) (x : Int32) : Int32 := if V (aNp (gH g)) x then nI (aFr (gH g) (sB (gS g)) (N x)) else -1
def uIn (h : aH) (b : Nat) (u : Int32) : Nat → Int32
  | 0 => u
  | k + 1 => uIn h b u k &&& (nI (2 ^ aRo h (6 * b + k)) ^^^ -1)
def uOut (h : aH) : Nat → Int32
  | 0 => nI (2 ^ aNp h) - 1
  | b + 1 => uIn h b (uOut h b) (aRs h b)
def fUncared (g : GG) : Int32 := uOut (gH g) (aNb (gH g))
def fLaw (g : GG) (x : Int32) : Int32 := if V 31 x then nI (aHurt (gH g) (aDays (gH g) (aRo (gH g)) false 7 (sAllF (gS g) (N x)))) else -1
def fNext (g : GG) (x : Int32) : Int32 := if V (aNm (gH g)) x then aNx (gH g) (aRo (gH g)) (N x) 60 1 (gS g) else -1
def fOd (c n : Nat) (y : Int32) : Nat := ((if y = 0 then c else 100) / Nat.gcd c 100) ^ n
def fOdds (g : GG) (x y : Int32) : Int32 := if V 5 x ∧ z1 y then nI (fOd (100 - aFl (gH g)) (N x) y) else -1
def fLies (g : GG) (x : Int32) : Int32 := if V (gC g) x then gY g (N x) else -2
def fAbout (g : GG) (x : Int32) : Int32 := if x = 0 then nI (aNp (gH g)) else if x = 1 then nI (aNm (gH g)) else if x = 2 then nI (aNb (gH g)) else if x = 3 then nI (sB (gS g)) else if x = 4 then nI (sD (gS g)) else if x = 5 then nI (sE (gS g)) else if x = 6 then nI (gA g) else if x = 7 then nI (gB g - gA g) else if x = 8 then nI (gN g) else if x = 9 then nI (gT g) else if x = 10 then nI (gL g) else if x = 11 then nI (aUn (gH g)) else if x = 12 then nI (gC g) else if x = 13 then nI (aBd (gH g)) else if x = 14 then nI (aFl (gH g)) else -1
section XP
variable {E : px_E} {d : Nat} {w : pw_W} {Q : Option Value → pw_W → Prop} {t : ct_T} {g : GG}
theorem RX.isP (hR : RX t g w) (x : Int32) : pX9_isPerson w t x ↔ V (aNp (gH g)) x := by
  show (¬ x < 0 ∧ ¬ pw_I w t.1 0 ≤ x) ↔ _
  rw [hR.2.2.1.1.1]
theorem RX.isM (hR : RX t g w) (x : Int32) : pX9_isMeeting w t x ↔ V (aNm (gH g)) x := by
  show (¬ x < 0 ∧ ¬ pw_I w t.1 4 ≤ x) ↔ _
  rw [hR.2.2.1.1.2.1]
theorem RX.isB (hR : RX t g w) (x : Int32) : pX9_isBrother w t x ↔ V (aNb (gH g)) x := by
  show (¬ x < 0 ∧ ¬ pw_I w t.1 8 ≤ x) ↔ _
  rw [hR.2.2.1.1.2.2.1]
theorem isW {n : Nat} (hn : n + 1 < 2 ^ 31) (x : Int32) : pX9_isWithin x (nI n) ↔ V (n + 1) x := V_le hn
theorem tX9_fault {x : Int32} (hR : RX t g w) (k : ∀ w', RX t g w' → agX w w' → Q (some (.int (fFault g x))) w') : px_Call E (d + 20) 0 0 mX9_fault [.ref 1, .int x] w Q := by
  have kk := k w hR agX.rf
  have hF := hR.2.2.2.2.2.2.2.2.2.2.1
  unfold fFault at kk
  refine eX9_fault hR.1 (fun a => ?_) (fun a b => ?_) (fun a b => ?_)
  · rw [if_pos a, ← hF.2.2.2.1] at kk; exact kk
  · rw [if_neg a, if_pos b, ← hF.2.2.2.2] at kk; exact kk
  · rw [if_neg a, if_neg b] at kk; exact kk
theorem tX9_person {x y : Int32} (hg : WG g) (hR : RX t g w) (k : ∀ w', RX t g w' → agX w w' → Q (some (.int (fPerson g x y))) w') : px_Call E (d + 20) 0 0 mX9_person [.ref 1, .int x, .int y] w Q := by
  have kk := k w hR agX.rf
  have np := hg.1.1
  unfold fPerson at kk
  have ok : pX9_isPerson w t x → ∃ j, j < aNp (gH g) ∧ x = nI j ∧ N x = j := fun h => V_of (by omega) ((hR.isP x).mp h)
  refine eX9_person hR.1 hR.2.1.1 (fun a b => ?_) (fun a b c => ?_) (fun a b c e => ?_) (fun a b c e f => ?_) (fun a b c e f => ?_) (fun a => ?_)
  · rw [if_pos ((hR.isP x).mp a), if_pos b] at kk
    obtain ⟨j, hj, rfl, nj⟩ := ok a
    refine bX9_person_40 hR.1 hR.2.1.1 j rfl (by omega) ?_
    rw [nj, ← hR.2.2.2.1.2.1 j hj] at kk
    exact kk
  · rw [if_pos ((hR.isP x).mp a), if_neg b, if_pos c] at kk
    obtain ⟨j, hj, rfl, nj⟩ := ok a
    refine bX9_person_50 hR.1 hR.2.1.1 j rfl (by omega) ?_
    rw [nj, ← (hR.2.2.1.2.1 j hj).2.1] at kk
    exact kk
  · rw [if_pos ((hR.isP x).mp a), if_neg b, if_neg c, if_pos e] at kk
    obtain ⟨j, hj, rfl, nj⟩ := ok a
    refine bX9_person_60 hR.1 hR.2.1.1 j rfl (by omega) ?_
    rw [nj, ← hR.2.2.2.1.1 j hj] at kk
    exact kk
  · rw [if_pos ((hR.isP x).mp a), if_neg b, if_neg c, if_neg e, if_pos f] at kk
    obtain ⟨j, hj, rfl, nj⟩ := ok a
    rw [nj] at kk
    have ab := pXab hR.2.2.1 hR.2.2.2.1 hg.1 hg.s.1 hj (nI j)
    refine bX9_person_70 hR.1 hR.2.1.1 j rfl (by omega) (fun z => ?_) (fun z => ?_) <;> rw [ab] at z <;> refine bX9_person_90 hR.1 hR.2.1.1 ?_
    · rw [jb_f z] at kk; exact kk
    · rw [jb_t z] at kk; exact kk
  · rw [if_pos ((hR.isP x).mp a), if_neg b, if_neg c, if_neg e, if_neg f] at kk; exact kk
  · rw [if_neg (fun z => a ((hR.isP x).mpr z))] at kk; exact kk
theorem tX9_meeting {x y : Int32} (hg : WG g) (hR : RX t g w) (k : ∀ w', RX t g w' → agX w w' → Q (some (.int (fMeeting g x y))) w') : px_Call E (d + 20) 0 0 mX9_meeting [.ref 1, .int x, .int y] w Q := by
  have kk := k w hR agX.rf
  have nm := hg.1.2.1
  unfold fMeeting at kk
  have ok : pX9_isMeeting w t x → ∃ j, j < aNm (gH g) ∧ x = nI j ∧ N x = j := fun h => V_of (by omega) ((hR.isM x).mp h)
  refine eX9_meeting hR.1 hR.2.1.1 (fun a b => ?_) (fun a b c => ?_) (fun a b c e => ?_) (fun a b c e f z => ?_) (fun a b c e f z => ?_) (fun a b c e f => ?_) (fun a => ?_)
  · rw [if_pos ((hR.isM x).mp a), if_pos b] at kk
    obtain ⟨j, hj, rfl, nj⟩ := ok a
    refine bX9_meeting_40 hR.1 hR.2.1.1 j rfl (by omega) ?_
    rw [nj, ← (hR.2.2.1.2.2.1 j hj).1] at kk
    exact kk
  · rw [if_pos ((hR.isM x).mp a), if_neg b, if_pos c] at kk
    obtain ⟨j, hj, rfl, nj⟩ := ok a
    refine bX9_meeting_50 hR.1 hR.2.1.1 j rfl (by omega) ?_
    rw [nj, ← (hR.2.2.1.2.2.1 j hj).2.1] at kk
    exact kk
  · rw [if_pos ((hR.isM x).mp a), if_neg b, if_neg c, if_pos e] at kk
    obtain ⟨j, hj, rfl, nj⟩ := ok a
    refine bX9_meeting_60 hR.1 hR.2.1.1 j rfl (by omega) ?_
    rw [nj, ← (hR.2.2.1.2.2.1 j hj).2.2] at kk
    exact kk
  · rw [if_pos ((hR.isM x).mp a), if_neg b, if_neg c, if_neg e, if_pos f] at kk
    obtain ⟨j, hj, rfl, nj⟩ := ok a
    rw [pXfb hR.2.2.2.1 hg.s.1 (by omega)] at z
    rw [nj, jb_f z] at kk
    exact bX9_meeting_86 hR.1 hR.2.1.1 kk
  · rw [if_pos ((hR.isM x).mp a), if_neg b, if_neg c, if_neg e, if_pos f] at kk
    obtain ⟨j, hj, rfl, nj⟩ := ok a
    rw [pXfb hR.2.2.2.1 hg.s.1 (by omega)] at z
    rw [nj, jb_t z] at kk
    exact bX9_meeting_86 hR.1 hR.2.1.1 kk
  · rw [if_pos ((hR.isM x).mp a), if_neg b, if_neg c, if_neg e, if_neg f] at kk; exact kk
  · rw [if_neg (fun z => a ((hR.isM x).mpr z))] at kk; exact kk
theorem tX9_brother {x y : Int32} (hg : WG g) (hR : RX t g w) (k : ∀ w', RX t g w' → agX w w' → Q (some (.int (fBrother g x y))) w') : px_Call E (d + 20) 0 0 mX9_brother [.ref 1, .int x, .int y] w Q := by
  have kk := k w hR agX.rf
  have nb := hg.1.2.2.1
  unfold fBrother at kk
  have ok : pX9_isBrother w t x → ∃ j, j < aNb (gH g) ∧ x = nI j ∧ N x = j := fun h => V_of (by omega) ((hR.isB x).mp h)
  refine eX9_brother hR.1 hR.2.1.1 (fun a b => ?_) (fun a b c => ?_) (fun a b c => ?_) (fun a => ?_)
  · rw [if_pos ((hR.isB x).mp a), if_pos b] at kk
    obtain ⟨j, hj, rfl, nj⟩ := ok a
    refine bX9_brother_36 hR.1 hR.2.1.1 j rfl (by omega) ?_
    rw [nj, ← (hR.2.2.1.2.2.2.1 j hj).1] at kk
    exact kk
  · rw [if_pos ((hR.isB x).mp a), if_neg b, if_pos c] at kk
    obtain ⟨j, hj, rfl, nj⟩ := ok a
    refine bX9_brother_46 hR.1 hR.2.1.1 j rfl (by omega) ?_
    rw [nj, ← (hR.2.2.1.2.2.2.1 j hj).2] at kk
    exact kk
  · rw [if_pos ((hR.isB x).mp a), if_neg b, if_neg c] at kk; exact kk
  · rw [if_neg (fun z => a ((hR.isB x).mpr z))] at kk; exact kk
theorem tX9_round {x y : Int32} (hg : WG g) (hR : RX t g w) (k : ∀ w', RX t g w' → agX w w' → Q (some (.int (fRound g x y))) w') : px_Call E (d + 20) 0 0 mX9_round [.ref 1, .int x, .int y] w Q := by
  have kk := k w hR agX.rf
  have nb := hg.1.2.2.1
  unfold fRound at kk
  have no : ¬ (V (aNb (gH g)) x ∧ V (aRs (gH g) (N x)) y) → px_W E mX9_round (d + 20) 0 0 25 [.null, .null, .null] [] w Q := fun z => bX9_round_25 hR.1 hR.2.1.1 (by rw [if_neg z] at kk; exact kk)
  refine eX9_round hR.1 hR.2.1.1 (fun a => no (fun z => a ((hR.isB x).mpr z.1))) (fun a b => no (fun z => z.2.1 b)) (fun a b => ?_)
  have vb := (hR.isB x).mp a
  obtain ⟨j, hj, rfl, nj⟩ := V_of (by omega) vb
  obtain ⟨-, c4, c5⟩ := hg.1.2.2.2.2.2.2.2.2.2.1 j hj
  refine bX9_round_12 hR.1 hR.2.1.1 j rfl (by omega) (fun c => ?_) (fun c => no (fun z => ?_)) <;> rw [(hR.2.2.1.2.2.2.1 j hj).2] at c
  · have vy : V (aRs (gH g) (N (nI j))) y := by rw [nj]; exact ⟨b, fun z => Int32.lt_irrefl (Int32.lt_of_lt_of_le c z)⟩
    rw [if_pos ⟨vb, vy⟩] at kk
    rw [nj] at vy
    obtain ⟨i, hi, rfl, ni⟩ := V_of (by omega) vy
    refine bX9_round_27 hR.1 hR.2.1.1 (6 * j + i) (by rw [show (6 : Int32) = nI 6 from rfl, pk_mul, nI_add, Nat.mul_comm]) (by omega) ?_
    rw [nj, ni, ← hR.2.2.1.2.2.2.2.1 j hj i hi] at kk
    exact kk
  · rw [nj] at z
    obtain ⟨i, hi, rfl, ni⟩ := V_of (by omega) z.2
    exact c ((nI_ltI (by omega) (by omega)).mpr hi)
theorem RX.lumpsLeft {p o : Nat} (hg : WG g) (hR : RX t g w) (k : ∀ w', RX t g w' → agX w w' → Q (some (.int (nI (fTo g p o)))) w') : px_Call E (d + 2) 0 0 mX1_lumpsLeft [.ref (t.1 + 10), .int (nI (sF (gS g) p)), .int (nI (sF (gS g) o)), .int (nI (sL (gS g) p)), .int (nI (sD (gS g)))] w Q := by
  have q13 := hg.1.2.2.2.2.2.2.2.2.2.2.2.2
  have hH := hR.2.2.1
  refine tX1_lumpsLeft hR.1 hR.2.1.1.is10 hH.2.2.2.2.2.1 q13.2 hH.2.2.2.2.2.2.2 q13.1 _ _ _ _ (fun w' a' => ?_)
  have hs : ∀ a ∈ [t.1 + 10 + 2], a ∈ xsc t := by intro a ha; rw [List.mem_singleton.mp ha]; simp
  exact k w' (hR.scr hg a' hs) (a'.x (fun a ha => xsc_x hR.2.1 a (hs a ha)))
theorem tX9_touch {x y : Int32} (hg : WG g) (hR : RX t g w) (k : ∀ w', RX t g w' → agX w w' → Q (some (.int (fTouch g x y))) w') : px_Call E (d + 20) 0 0 mX9_touch [.ref 1, .int x, .int y] w Q := by
  have nm := hg.1.2.1
  have np := hg.1.1
  have hw := hR.1
  have h1 := hR.2.1.1
  unfold fTouch at k
  have no : ¬ (V (aNm (gH g)) x ∧ z1 y) → px_W E mX9_touch (d + 20) 0 0 15 [.null, .null, .null, .null, .null] [] w Q := fun z => bX9_touch_15 hw h1 (by have := k w hR agX.rf; rw [if_neg z] at this; exact this)
  have fin : ∀ p o, p < aNp (gH g) → o < aNp (gH g) → (∀ w', RX t g w' → agX w w' → Q (some (.int (nI (fTo g p o)))) w') → px_W E mX9_touch (d + 20) 0 0 68 [.ref 1, .null, .null, .int (nI p), .null] [.int (nI o)] w Q := by
    intro p o hp ho kk
    refine bX9_touch_68 hw h1 p rfl (by omega) o rfl (by omega) ?_
    have e1 : pw_I w 37 p = nI (sF (gS g) p) := hR.2.2.2.1.2.1 p hp
    have e2 : pw_I w 37 o = nI (sF (gS g) o) := hR.2.2.2.1.2.1 o ho
    have e3 : pw_I w 36 p = nI (sL (gS g) p) := hR.2.2.2.1.1 p hp
    rw [e1, e2, e3, hR.2.2.2.1.2.2.2.1]
    exact RX.lumpsLeft hg hR (fun w' R' a' => bX9_touch_115 R'.1 h1 (kk w' R' a'))
  refine eX9_touch hw h1 (fun a => no (fun z => a ((hR.isM x).mpr z.1))) (fun a b c => ?_) (fun a b c => ?_) (fun a b => no (fun z => b z.2))
  · have va := (hR.isM x).mp a
    rw [if_pos ⟨va, b⟩, if_neg c] at k
    obtain ⟨j, hj, rfl, nj⟩ := V_of (by omega) va
    obtain ⟨m1, m2, -⟩ := hg.1.2.2.2.2.2.2.2.2.1 j hj
    obtain ⟨f1, f2, -⟩ := hR.2.2.1.2.2.1 j hj
    rw [nj] at k
    refine bX9_touch_33 hw h1 j rfl (by omega) (bX9_touch_42 hw h1 (fun _ => bX9_touch_59 hw h1 j rfl (by omega) ?_) (fun z => absurd z c))
    rw [f1, f2]
    exact fin _ _ m2 m1 k
  · have va := (hR.isM x).mp a
    rw [if_pos ⟨va, b⟩, if_pos c] at k
    obtain ⟨j, hj, rfl, nj⟩ := V_of (by omega) va
    obtain ⟨m1, m2, -⟩ := hg.1.2.2.2.2.2.2.2.2.1 j hj
    obtain ⟨f1, f2, -⟩ := hR.2.2.1.2.2.1 j hj
    rw [nj] at k
    refine bX9_touch_21 hw h1 j rfl (by omega) (bX9_touch_42 hw h1 (fun z => absurd c z) (fun _ => bX9_touch_47 hw h1 j rfl (by omega) ?_))
    rw [f1, f2]
    exact fin _ _ m1 m2 k
theorem tX9_abed (hg : WG g) (hR : RX t g w) (k : ∀ w', RX t g w' → agX w w' → Q (some (.int (fAbed g))) w') : px_Call E (d + 20) 0 0 mX9_abed [.ref 1] w Q := by
  refine eX9_abed hR.1 hR.2.1.1 (tX2_abedBits hR.1 hR.2.1.1 st35 hR.2.2.1 hR.2.2.2.1 hg.1 hg.s.1 ?_)
  exact bX9_abed_11 hR.1 hR.2.1.1 (k w hR agX.rf)
theorem sc4 : ∀ a ∈ [42, 43, 44, t.1 + 12], a ∈ xsc t := by intro a; simp; omega
theorem sc5 : ∀ a ∈ [41, 42, 43, 44, t.1 + 12], a ∈ xsc t := by intro a; simp; omega
theorem RX.k {S : List Nat} {w' : pw_W} (hg : WG g) (hR : RX t g w) (ha : ag S w w') (hs : ∀ a ∈ S, a ∈ xsc t) : RX t g w' ∧ agX w w' := ⟨hR.scr hg ha hs, ha.x (fun a h => xsc_x hR.2.1 a (hs a h))⟩
theorem tX9_will {x y z : Int32} (hg : WG g) (hR : RX t g w) (k : ∀ w', RX t g w' → agX w w' → Q (some (.int (fWill g x y z))) w') : px_Call E (d + 20) 0 0 mX9_will [.ref 1, .int x, .int y, .int z] w Q := by
  have np := hg.1.1
  have hw := hR.1
  have h1 := hR.2.1.1
  have hd := hg.s.2
  unfold fWill at k
  have no : ¬ (V (aNp (gH g)) x ∧ V 61 y ∧ z1 z) → px_W E mX9_will (d + 20) 0 0 24 [.null, .null, .null, .null] [] w Q := fun q => bX9_will_24 hw h1 (by have := k w hR agX.rf; rw [if_neg q] at this; exact this)
  have go : ∀ fl p n, p < aNp (gH g) → n ≤ 60 → (∀ w', RX t g w' → agX w w' → Q (some (.int (nI (sL (gD g fl n) p)))) w') → px_W E mX9_will (d + 20) 0 0 50 [.null, .null, .null, .null] [.int (jb (fl = true)), .int (nI n), .int (nI p), .ref 35, .ref t.1, .ref 41] w Q := by
    intro fl p n hp hn kk
    refine bX9_will_50 hw h1 (tX4_lumpsBehind hw h1 hR.2.2.1 hR.2.2.2.1 hg.1 hg.s.1 hp (by omega) (fun w' a' => ?_))
    obtain ⟨R', x'⟩ := hR.k hg a' sc4
    exact bX9_will_53 R'.1 h1 (kk w' R' x')
  refine eX9_will hw h1 (fun a => no (fun q => a ((hR.isP x).mpr q.1))) (fun a b => no (fun q => b ((isW (n := 60) (by decide) y).mpr q.2.1))) (fun a b c e => ?_) (fun a b c e => ?_) (fun a b c => no (fun q => c q.2.2))
  · have va := (hR.isP x).mp a
    have vb := (isW (n := 60) (by decide) y).mp b
    rw [if_pos ⟨va, vb, c⟩, if_neg e] at k
    obtain ⟨p, hp, rfl, ep⟩ := V_of (by omega) va
    obtain ⟨n, hn, rfl, en⟩ := V_of (by decide) vb
    rw [ep, en] at k
    exact go false p n hp (by omega) k
  · have va := (hR.isP x).mp a
    have vb := (isW (n := 60) (by decide) y).mp b
    rw [if_pos ⟨va, vb, c⟩, if_pos e] at k
    obtain ⟨p, hp, rfl, ep⟩ := V_of (by omega) va
    obtain ⟨n, hn, rfl, en⟩ := V_of (by decide) vb
    rw [ep, en] at k
    exact go true p n hp (by omega) k
theorem tX9_firm {x y : Int32} (hg : WG g) (hR : RX t g w) (k : ∀ w', RX t g w' → agX w w' → Q (some (.int (fFirm g x y))) w') : px_Call E (d + 20) 0 0 mX9_firm [.ref 1, .int x, .int y] w Q := by
  have np := hg.1.1
  have hw := hR.1
  have h1 := hR.2.1.1
  have hd := hg.s.2
  unfold fFirm at k
  have no : ¬ (V (aNp (gH g)) x ∧ V 61 y) → px_W E mX9_firm (d + 20) 0 0 17 [.null, .null, .null] [] w Q := fun q => bX9_firm_17 hw h1 (by have := k w hR agX.rf; rw [if_neg q] at this; exact this)
  refine eX9_firm hw h1 (fun a => no (fun q => a ((hR.isP x).mpr q.1))) (fun a b => ?_) (fun a b => no (fun q => b ((isW (n := 60) (by decide) y).mpr q.2)))
  have va := (hR.isP x).mp a
  have vb := (isW (n := 60) (by decide) y).mp b
  rw [if_pos ⟨va, vb⟩] at k
  obtain ⟨p, hp, rfl, ep⟩ := V_of (by omega) va
  obtain ⟨n, hn, rfl, en⟩ := V_of (by decide) vb
  rw [ep, en] at k
  refine tX4_firmBehind hw h1 hR.2.2.1 hR.2.2.2.1 hg.1 hg.s.1 hp (by omega) (fun w' a' => ?_)
  obtain ⟨R', x'⟩ := hR.k hg a' sc4
  exact bX9_firm_36 R'.1 h1 (k w' R' x')
theorem tX9_hurt {x : Int32} (hg : WG g) (hR : RX t g w) (k : ∀ w', RX t g w' → agX w w' → Q (some (.int (fHurt g x))) w') : px_Call E (d + 20) 0 0 mX9_hurt [.ref 1, .int x] w Q := by
  have hw := hR.1
  have h1 := hR.2.1.1
  have hd := hg.s.2
  unfold fHurt at k
  refine eX9_hurt hw h1 (fun a => ?_) (fun a => ?_)
  · refine bX9_hurt_29 hw h1 ?_
    have := k w hR agX.rf
    rw [if_neg (fun q => a ((isW (n := 60) (by decide) x).mpr q))] at this
    exact this
  · have va := (isW (n := 60) (by decide) x).mp a
    rw [if_pos va] at k
    obtain ⟨n, hn, rfl, en⟩ := V_of (by decide) va
    rw [en] at k
    refine tX4_hurtBehind hw h1 hR.2.2.1 hR.2.2.2.1 hg.1 hg.s.1 (by omega) (fun w' a' => ?_)
    obtain ⟨R', x'⟩ := hR.k hg a' sc4
    exact bX9_hurt_25 R'.1 h1 (bX9_hurt_29 R'.1 h1 (k w' R' x'))
theorem tX9_felled {x : Int32} (hg : WG g) (hR : RX t g w) (k : ∀ w', RX t g w' → agX w w' → Q (some (.int (fFelled g x))) w') : px_Call E (d + 20) 0 0 mX9_felled [.ref 1, .int x] w Q := by
  have np := hg.1.1
  have hw := hR.1
  have h1 := hR.2.1.1
  have hd := hg.s.2
  unfold fFelled at k
  refine eX9_felled hw h1 (fun a => ?_) (fun a => ?_)
  · refine bX9_felled_30 hw h1 ?_
    have := k w hR agX.rf
    rw [if_neg (fun q => a ((hR.isP x).mpr q))] at this
    exact this
  · have va := (hR.isP x).mp a
    rw [if_pos va] at k
    obtain ⟨p, hp, rfl, ep⟩ := V_of (by omega) va
    rw [ep] at k
    refine tX4_daysTillAbed (n := 60) hw h1 hR.2.2.1 hR.2.2.2.1 hg.1 hg.s.1 hp (by omega) (fun w' a' => ?_)
    obtain ⟨R', x'⟩ := hR.k hg a' sc4
    exact bX9_felled_26 R'.1 h1 (bX9_felled_30 R'.1 h1 (k w' R' x'))
theorem tX9_grip {x y : Int32} (hg : WG g) (hR : RX t g w) (k : ∀ w', RX t g w' → agX w w' → Q (some (.int (fGrip g x y))) w') : px_Call E (d + 20) 0 0 mX9_grip [.ref 1, .int x, .int y] w Q := by
  have np := hg.1.1
  have hw := hR.1
  have h1 := hR.2.1.1
  have hd := hg.s.2
  unfold fGrip at k
  have no : ¬ (V (aNp (gH g)) x ∧ V 31 y) → px_W E mX9_grip (d + 20) 0 0 17 [.null, .null, .null] [] w Q := fun q => bX9_grip_17 hw h1 (by have := k w hR agX.rf; rw [if_neg q] at this; exact this)
  refine eX9_grip hw h1 (fun a => no (fun q => a ((hR.isP x).mpr q.1))) (fun a b => ?_) (fun a b => no (fun q => b ((isW (n := 30) (by decide) y).mpr q.2)))
  have va := (hR.isP x).mp a
  have vb := (isW (n := 30) (by decide) y).mp b
  rw [if_pos ⟨va, vb⟩] at k
  obtain ⟨p, hp, rfl, ep⟩ := V_of (by omega) va
  obtain ⟨n, hn, rfl, en⟩ := V_of (by decide) vb
  rw [ep, en] at k
  refine tX4_leastGrip hw h1 hR.2.2.1 hR.2.2.2.1 hg.1 hg.s.1 hp (by omega) (fun w' a' => ?_)
  obtain ⟨R', x'⟩ := hR.k hg a' sc4
  exact bX9_grip_36 R'.1 h1 (k w' R' x')
theorem tX9_chosen {o : Option (Nat × Nat)} {z : Int32} (hw : w.1 = cs t) (hC : RCh o w) (ho : ∀ q, o = some q → q.1 < 2 ^ 31 ∧ q.2 < 2 ^ 31) (k : Q (some (.int (fCh o z))) w) : px_Call E (d + 1) 0 0 mX9_chosen [.ref 1, .int z] w Q := by
  cases o with
  | none => exact eX9_chosen hw (fun q => absurd hC q) (fun q => absurd hC q) (fun _ => k)
  | some q =>
    have k : Q (some (.int (if z = 0 then nI q.1 else nI q.2))) w := k
    have hC : pw_I w 41 2 = nI q.1 ∧ pw_I w 41 3 = nI q.2 := hC
    refine eX9_chosen hw (fun _ b => bX9_chosen_34 hw ?_) (fun _ b => bX9_chosen_34 hw ?_) (fun a => ?_)
    · rw [if_neg b, ← hC.2] at k; exact k
    · rw [if_pos b, ← hC.1] at k; exact k
    · rw [hC.1] at a; exact absurd a (nI_m1 (ho q rfl).1)
theorem tX9_pupil {x y : Int32} (hg : WG g) (hR : RX t g w) (k : ∀ w', RX t g w' → agX w w' → Q (some (.int (fPupil g x y))) w') : px_Call E (d + 20) 0 0 mX9_pupil [.ref 1, .int x, .int y] w Q := by
  have np := hg.1.1
  have hw := hR.1
  have h1 := hR.2.1.1
  have hd := hg.s.2
  unfold fPupil at k
  have no : ¬ (V 31 x ∧ z1 y) → px_W E mX9_pupil (d + 20) 0 0 16 [.null, .null, .null] [] w Q := fun q => bX9_pupil_16 hw h1 (by have := k w hR agX.rf; rw [if_neg q] at this; exact this)
  refine eX9_pupil hw h1 (fun a => no (fun q => a ((isW (n := 30) (by decide) x).mpr q.1))) (fun a b => ?_) (fun a b => no (fun q => b q.2))
  have va := (isW (n := 30) (by decide) x).mp a
  rw [if_pos ⟨va, b⟩] at k
  obtain ⟨n, hn, rfl, en⟩ := V_of (by decide) va
  rw [en] at k
  refine tX4_choosePupil hw h1 hR.2.2.1 hR.2.2.2.1 hg.1 hg.s.1 (by omega) (fun w' a' C' => ?_)
  obtain ⟨R', x'⟩ := hR.k hg a' sc5
  exact bX9_pupil_34 R'.1 h1 (tX9_chosen R'.1 C' (bst31 np (fun i _ v e => fPup_lt hg.1 hg.s.1 (by omega) e)) (bX9_pupil_39 R'.1 h1 (k w' R' x')))
theorem tX9_scourge {y : Int32} (hg : WG g) (hR : RX t g w) (k : ∀ w', RX t g w' → agX w w' → Q (some (.int (fScourge g y))) w') : px_Call E (d + 20) 0 0 mX9_scourge [.ref 1, .int y] w Q := by
  have np := hg.1.1
  have hw := hR.1
  have h1 := hR.2.1.1
  have hd := hg.s.2
  unfold fScourge at k
  refine eX9_scourge hw h1 (fun b => ?_) (fun b => by have := k w hR agX.rf; rw [if_neg b] at this; exact this)
  rw [if_pos b] at k
  refine tX4_chooseScourge hw h1 hR.2.2.1 hR.2.2.2.1 hg.1 hg.s.1 (by omega) (fun w' a' C' => ?_)
  obtain ⟨R', x'⟩ := hR.k hg a' sc5
  exact bX9_scourge_26 R'.1 h1 (tX9_chosen R'.1 C' (bst31 np (fun i _ v e => fSco_lt hg.1 hg.s.1 (by omega) e)) (bX9_scourge_31 R'.1 h1 (k w' R' x')))
theorem tX9_relief {x y : Int32} (hg : WG g) (hR : RX t g w) (k : ∀ w', RX t g w' → agX w w' → Q (some (.int (fRelief g x y))) w') : px_Call E (d + 20) 0 0 mX9_relief [.ref 1, .int x, .int y] w Q := by
  have np := hg.1.1
  have nb := hg.1.2.2.1
  have hw := hR.1
  have h1 := hR.2.1.1
  have hd := hg.s.2
  unfold fRelief at k
  have no : ¬ (V (aNb (gH g)) x ∧ z1 y) → px_W E mX9_relief (d + 20) 0 0 15 [.null, .null, .null] [] w Q := fun q => bX9_relief_15 hw h1 (by have := k w hR agX.rf; rw [if_neg q] at this; exact this)
  refine eX9_relief hw h1 (fun a => no (fun q => a ((hR.isB x).mpr q.1))) (fun a b => ?_) (fun a b => no (fun q => b q.2))
  have va := (hR.isB x).mp a
  rw [if_pos ⟨va, b⟩] at k
  obtain ⟨n, hn, rfl, en⟩ := V_of (by omega) va
  rw [en] at k
  refine tX4_chooseRelief hw h1 hR.2.2.1 hR.2.2.2.1 hg.1 hg.s.1 hn (by omega) (fun w' a' C' => ?_)
  obtain ⟨R', x'⟩ := hR.k hg a' sc5
  exact bX9_relief_35 R'.1 h1 (tX9_chosen R'.1 C' (bst31 np (fun i _ v e => fRel_lt hg.1 hg.s.1 (by omega) e)) (bX9_relief_40 R'.1 h1 (k w' R' x')))
theorem tX9_rumour {x y : Int32} (hg : WG g) (hR : RX t g w) (k : ∀ w', RX t g w' → agX w w' → Q (some (.int (fRumour g x y))) w') : px_Call E (d + 20) 0 0 mX9_rumour [.ref 1, .int x, .int y] w Q := by
  have np := hg.1.1
  have hw := hR.1
  have h1 := hR.2.1.1
  have kk := k w hR agX.rf
  unfold fRumour at kk
  have no : ¬ (V (aNp (gH g)) x ∧ V (aNp (gH g)) y) → px_W E mX9_rumour (d + 20) 0 0 16 [.null, .null, .null] [] w Q := fun q => bX9_rumour_16 hw h1 (by rw [if_neg q] at kk; exact kk)
  refine eX9_rumour hw h1 (fun a => no (fun q => a ((hR.isP x).mpr q.1))) (fun a b => ?_) (fun a b => no (fun q => b ((hR.isP y).mpr q.2)))
  have va := (hR.isP x).mp a
  have vb := (hR.isP y).mp b
  rw [if_pos ⟨va, vb⟩] at kk
  obtain ⟨p, hp, rfl, ep⟩ := V_of (by omega) va
  obtain ⟨n, hn, rfl, en⟩ := V_of (by omega) vb
  rw [ep, en] at kk
  rw [hR.2.2.2.1.2.2.1]
  exact tX0_stepsBetween hw h1 hR.2.2.1 hg.1 hg.s.1.2.1 hp hn (bX9_rumour_38 hw h1 kk)
theorem tX9_manners (hg : WG g) (hR : RX t g w) (k : ∀ w', RX t g w' → agX w w' → Q (some (.int (fManners g))) w') : px_Call E (d + 20) 0 0 mX9_manners [.ref 1] w Q := by
  have hd := hg.s.2
  refine eX9_manners hR.1 hR.2.1.1 (tX4_daysTillSettled hR.1 hR.2.1.1 hR.2.2.1 hR.2.2.2.1 hg.1 hg.s.1 (by omega) (fun w' a' => ?_))
  obtain ⟨R', x'⟩ := hR.k hg a' sc4
  exact bX9_manners_17 R'.1 hR.2.1.1 (k w' R' x')
theorem tX9_firstGreatest {f : Nat → Nat} {r n : Nat} (hg : WG g) (hR : RX t g w) (hr : (cs t).2.1 r = (100, n)) (hn : aNp (gH g) ≤ n) (hn2 : n < 2 ^ 31) (hf : ∀ p, p < aNp (gH g) → pw_I w r p = nI (f p) ∧ f p < 1000) (k : Q (some (.int (aOp (aGtK f (aNp (gH g)))))) w) : px_Call E (d + 1) 0 0 mX9_firstGreatest [.ref 1, .ref r] w Q := by
  have np := hg.1.1
  have hw := hR.1
  have h1 := hR.2.1.1
  refine eX9_firstGreatest hw hr hn2 h1 ?_
  have key : ∀ i, i ≤ aNp (gH g) → px_W E mX9_firstGreatest (d + 1) 0 0 7 [.ref 1, .ref r, .int (aOp (aGtK f i)), .int (aOp ((aGtK f i).map f)), .int (nI i)] [] w Q := by
    refine za_up _ _ (fun i hi ih => ?_)
    refine bX9_firstGreatest_7 hw hr hn2 h1 (fun q => ?_) (fun q z => ?_) (fun q _ => ?_) <;> rw [hR.2.2.1.1.1] at q
    · have : i = aNp (gH g) := by have := za_le (by omega) (by omega) q; omega
      subst this
      exact bX9_firstGreatest_48 hw hr hn2 h1 k
    · have hlt : i < aNp (gH g) := za_nle (by omega) (by omega) q
      have := za_le (by omega) (by omega) z
      omega
    · have hlt : i < aNp (gH g) := za_nle (by omega) (by omega) q
      obtain ⟨e1, b1⟩ := hf i hlt
      have ih := ih hlt
      rw [← nI_1] at ih
      have yes : aGtK f (i + 1) = some i → px_W E mX9_firstGreatest (d + 1) 0 0 34 [.ref 1, .ref r, .null, .null, .int (nI i)] [] w Q := by
        intro e
        rw [e] at ih
        refine bX9_firstGreatest_34 hw hr hn2 h1 i rfl (by omega) (bX9_firstGreatest_42 hw hr hn2 h1 ?_)
        rw [e1]
        exact ih
      cases hk : aGtK f i with
      | none =>
        refine bX9_firstGreatest_26 hw hr hn2 h1 i rfl (by omega) (fun z => ?_) (fun z => yes (aGtK_0 hk))
        rw [e1] at z
        exact absurd (Int32.lt_of_le_of_lt z (show (-1 : Int32) < 0 by decide)) (nI_pos (by omega))
      | some b =>
        have bl := aGtK_lt hk
        obtain ⟨e2, b2⟩ := hf b (by omega)
        refine bX9_firstGreatest_26 hw hr hn2 h1 i rfl (by omega) (fun z => ?_) (fun z => ?_) <;> rw [e1] at z
        · have z : f i ≤ f b := za_le (by omega) (by omega) z
          rw [aGtK_1 hk, if_neg (by omega)] at ih
          exact bX9_firstGreatest_42 hw hr hn2 h1 ih
        · have z : f b < f i := za_nle (by omega) (by omega) z
          exact yes (by rw [aGtK_1 hk, if_pos z])
  exact key 0 (Nat.zero_le _)
theorem tX9_sorest (hg : WG g) (hR : RX t g w) (k : ∀ w', RX t g w' → agX w w' → Q (some (.int (fSorest g))) w') : px_Call E (d + 20) 0 0 mX9_sorest [.ref 1] w Q :=
  eX9_sorest hR.1 (tX9_firstGreatest hg hR (n := 6) rfl hg.1.1 (by decide) (fun p hp => ⟨hR.2.2.2.1.1 p hp, by have := (hg.s.1.1 p hp).2; omega⟩) (bX9_sorest_11 hR.1 (k w hR agX.rf)))
theorem tX9_firmest (hg : WG g) (hR : RX t g w) (k : ∀ w', RX t g w' → agX w w' → Q (some (.int (fFirmest g))) w') : px_Call E (d + 20) 0 0 mX9_firmest [.ref 1] w Q :=
  eX9_firmest hR.1 (tX9_firstGreatest hg hR (n := 6) rfl hg.1.1 (by decide) (fun p hp => ⟨hR.2.2.2.1.2.1 p hp, by have := (hg.s.1.1 p hp).1; omega⟩) (bX9_firmest_11 hR.1 (k w hR agX.rf)))
theorem tX9_due (hg : WG g) (hR : RX t g w) (k : ∀ w', RX t g w' → agX w w' → Q (some (.int (fDue g))) w') : px_Call E (d + 20) 0 0 mX9_due [.ref 1] w Q := by
  have nm := hg.1.2.1
  have hw := hR.1
  have h1 := hR.2.1.1
  refine eX9_due hw h1 ?_
  have key : ∀ i, i ≤ aNm (gH g) → px_W E mX9_due (d + 20) 0 0 4 [.ref 1, .int (nI (aDuK (gH g) (gS g) i)), .int (nI i)] [] w Q := by
    refine za_up _ _ (fun i hi ih => ?_)
    refine bX9_due_4 hw h1 (fun q => ?_) (fun q => ?_) <;> rw [hR.2.2.1.1.2.1] at q
    · have : i = aNm (gH g) := by have := za_le (by omega) (by omega) q; omega
      subst this
      exact k w hR agX.rf
    · have hlt : i < aNm (gH g) := za_nle (by omega) (by omega) q
      have ih := ih hlt
      rw [aDuK_s, ← nI_1] at ih
      refine tX2_takesPlace hw h1 st35 hR.2.2.1 hR.2.2.2.1 hg.1 hg.s.1 hlt ?_
      refine bX9_due_27 hw h1 (fun z => ?_) (fun z => ?_) <;> refine bX9_due_36 hw h1 ?_
      · rw [if_neg (jb_eq0.mp z)] at ih; exact ih
      · rw [if_pos (Classical.not_not.mp (fun y => z (jb_eq0.mpr y)))] at ih
        rw [za_bit1 (by omega), za_or]
        exact ih
  exact key 0 (Nat.zero_le _)
theorem tX9_friends {x : Int32} (hg : WG g) (hR : RX t g w) (k : ∀ w', RX t g w' → agX w w' → Q (some (.int (fFriends g x))) w') : px_Call E (d + 20) 0 0 mX9_friends [.ref 1, .int x] w Q := by
  have np := hg.1.1
  have hw := hR.1
  have h1 := hR.2.1.1
  have kk := k w hR agX.rf
  unfold fFriends at kk
  refine eX9_friends hw h1 (fun a => ?_) (fun a => ?_)
  · rw [if_neg (fun q => a ((hR.isP x).mpr q))] at kk
    exact bX9_friends_31 hw h1 kk
  · have va := (hR.isP x).mp a
    rw [if_pos va] at kk
    obtain ⟨p, hp, rfl, ep⟩ := V_of (by omega) va
    rw [ep] at kk
    rw [hR.2.2.2.1.2.2.1]
    exact tX0_companyOf hw h1 hR.2.2.1 hg.1 hg.s.1.2.1 (by omega) (bX9_friends_27 hw h1 (bX9_friends_31 hw h1 kk))
theorem tX9_uncared (hg : WG g) (hR : RX t g w) (k : ∀ w', RX t g w' → agX w w' → Q (some (.int (fUncared g))) w') : px_Call E (d + 20) 0 0 mX9_uncared [.ref 1] w Q := by
  have np := hg.1.1
  have nb := hg.1.2.2.1
  have hw := hR.1
  have h1 := hR.2.1.1
  refine eX9_uncared hw h1 ?_
  have e0 : hX2_allPeople w t.1 = uOut (gH g) 0 := by
    show js_shl 1 (pw_I w t.1 0) - 1 = _
    rw [hR.2.2.1.1.1, za_bit1 (by omega)]
    rfl
  rw [e0]
  have key : ∀ b, b ≤ aNb (gH g) → px_W E mX9_uncared (d + 20) 0 0 10 [.ref 1, .int (uOut (gH g) b), .int (nI b), .null] [] w Q := by
    refine za_up _ _ (fun b hb ih => ?_)
    refine bX9_uncared_10 hw h1 (fun q => ?_) (fun q => ?_) <;> rw [hR.2.2.1.1.2.2.1] at q
    · have : b = aNb (gH g) := by have := za_le (by omega) (by omega) q; omega
      subst this
      exact k w hR agX.rf
    · have hlt : b < aNb (gH g) := za_nle (by omega) (by omega) q
      obtain ⟨-, c4, c5⟩ := hg.1.2.2.2.2.2.2.2.2.2.1 b hlt
      have key2 : ∀ j, j ≤ aRs (gH g) b → px_W E mX9_uncared (d + 20) 0 0 23 [.ref 1, .int (uIn (gH g) b (uOut (gH g) b) j), .int (nI b), .int (nI j)] [] w Q := by
        refine za_up _ _ (fun j hj ih2 => ?_)
        refine bX9_uncared_23 hw h1 b rfl (by omega) (fun z => ?_) (fun z => ?_) <;> rw [(hR.2.2.1.2.2.2.1 b hlt).2] at z
        · have : j = aRs (gH g) b := by have := za_le (by omega) (by omega) z; omega
          subst this
          rw [nI_1]
          exact ih hlt
        · have jl : j < aRs (gH g) b := za_nle (by omega) (by omega) z
          have rl := hg.1.2.2.2.2.2.2.2.2.2.2.1 b hlt j jl
          refine bX9_uncared_36 hw h1 (6 * b + j) (by rw [show (6 : Int32) = nI 6 from rfl, pk_mul, nI_add, Nat.mul_comm]) (by omega) ?_
          rw [hR.2.2.1.2.2.2.2.1 b hlt j jl, za_bit1 (by omega), nI_1]
          exact ih2 jl
      exact key2 0 (Nat.zero_le _)
  exact key 0 (Nat.zero_le _)
theorem tX9_law {x : Int32} (hg : WG g) (hR : RX t g w) (k : ∀ w', RX t g w' → agX w w' → Q (some (.int (fLaw g x))) w') : px_Call E (d + 20) 0 0 mX9_law [.ref 1, .int x] w Q := by
  have hw := hR.1
  have h1 := hR.2.1.1
  have hd := hg.s.2
  unfold fLaw at k
  refine eX9_law hw h1 (fun a => ?_) (fun a => ?_)
  · refine bX9_law_31 hw h1 ?_
    have := k w hR agX.rf
    rw [if_neg (fun q => a ((isW (n := 30) (by decide) x).mpr q))] at this
    exact this
  · have va := (isW (n := 30) (by decide) x).mp a
    rw [if_pos va] at k
    obtain ⟨n, hn, rfl, en⟩ := V_of (by decide) va
    rw [en] at k
    refine tX4_hurtIfAllAre (n := 7) hw h1 hR.2.2.1 hR.2.2.2.1 hg.1 hg.s.1 (by omega) (by omega) (fun w' a' => ?_)
    obtain ⟨R', x'⟩ := hR.k hg a' sc4
    exact bX9_law_27 R'.1 h1 (bX9_law_31 R'.1 h1 (k w' R' x'))
theorem tX9_next {x : Int32} (hg : WG g) (hR : RX t g w) (k : ∀ w', RX t g w' → agX w w' → Q (some (.int (fNext g x))) w') : px_Call E (d + 20) 0 0 mX9_next [.ref 1, .int x] w Q := by
  have nm := hg.1.2.1
  have hw := hR.1
  have h1 := hR.2.1.1
  have hd := hg.s.2
  unfold fNext at k
  refine eX9_next hw h1 (fun a => ?_) (fun a => ?_)
  · refine bX9_next_30 hw h1 ?_
    have := k w hR agX.rf
    rw [if_neg (fun q => a ((hR.isM x).mpr q))] at this
    exact this
  · have va := (hR.isM x).mp a
    rw [if_pos va] at k
    obtain ⟨p, hp, rfl, ep⟩ := V_of (by omega) va
    rw [ep] at k
    refine tX4_daysTillMeeting (n := 60) hw h1 hR.2.2.1 hR.2.2.2.1 hg.1 hg.s.1 hp (by omega) (fun w' a' => ?_)
    obtain ⟨R', x'⟩ := hR.k hg a' sc4
    exact bX9_next_26 R'.1 h1 (bX9_next_30 R'.1 h1 (k w' R' x'))
theorem tX9_greatestDivisor {c : Nat} (hc : c ≤ 100) (k : Q (some (.int (nI (Nat.gcd c 100)))) w) : px_Call E (d + 1) 0 0 mX9_greatestDivisor [.int 100, .int (nI c)] w Q := by
  refine eX9_greatestDivisor ?_
  have gp : 0 < Nat.gcd c 100 := Nat.gcd_pos_of_pos_right c (by decide)
  have gl : Nat.gcd c 100 ≤ 100 := Nat.gcd_le_right c (by decide)
  have fin : ∀ x, Nat.gcd 0 x = Nat.gcd c 100 → px_W E mX9_greatestDivisor (d + 1) 0 0 34 [.null, .null, .int (nI x), .null, .null, .null] [] w Q := by
    intro x e
    rw [Nat.gcd_zero_left] at e
    refine bX9_greatestDivisor_34 ?_
    rw [show (1 : Int32) = nI 1 from rfl, za_max (by omega) (by decide), Nat.max_eq_left (by omega), e]
    exact k
  have key : ∀ i, i ≤ 100 → ∀ x y, x ≤ 100 → y + i ≤ 100 → Nat.gcd y x = Nat.gcd c 100 → px_W E mX9_greatestDivisor (d + 1) 0 0 7 [.null, .null, .int (nI x), .int (nI y), .int (nI i), .null] [] w Q := by
    refine za_up 100 _ (fun i hi ih => ?_)
    intro x y hx hy e
    refine bX9_greatestDivisor_7 (fun q => ?_) (fun q z => ?_) (fun q z => ?_)
    · have := za_le (a := 100) (by omega) (by omega) q
      rw [show y = 0 by omega] at e
      exact fin x e
    · have := za_le (b := 0) (by omega) (by omega) z
      rw [show y = 0 by omega] at e
      exact fin x e
    · have q := za_nle (a := 100) (by omega) (by omega) q
      have y0 : 0 < y := za_nle (b := 0) (by omega) (by omega) z
      refine bX9_greatestDivisor_18 (nI_ne0 y0 (by omega)) ?_
      rw [za_rem (by omega) y0 (by omega), nI_1]
      have := Nat.mod_lt x y0
      refine ih q y (x % y) (by omega) (by omega) ?_
      rw [← e, ← Nat.gcd_rec]
  exact key 0 (by omega) 100 c (by omega) (by omega) rfl
theorem tX9_odds {x y : Int32} (hg : WG g) (hR : RX t g w) (k : ∀ w', RX t g w' → agX w w' → Q (some (.int (fOdds g x y))) w') : px_Call E (d + 20) 0 0 mX9_odds [.ref 1, .int x, .int y] w Q := by
  have hw := hR.1
  have h1 := hR.2.1.1
  have hfl := hg.1.2.2.2.2.1
  have kk := k w hR agX.rf
  unfold fOdds at kk
  have no : ¬ (V 5 x ∧ z1 y) → px_W E mX9_odds (d + 20) 0 0 15 [.null, .null, .null, .null, .null, .null, .null, .null] [] w Q := fun q => bX9_odds_15 hw h1 (by rw [if_neg q] at kk; exact kk)
  refine eX9_odds hw h1 (fun a => no (fun q => a ((isW (n := 4) (by decide) x).mpr q.1))) (fun a b => ?_) (fun a b => no (fun q => b q.2))
  have va := (isW (n := 4) (by decide) x).mp a
  rw [if_pos ⟨va, b⟩] at kk
  obtain ⟨n, hn, rfl, en⟩ := V_of (by decide) va
  rw [en] at kk
  have ec : 100 - pw_I w t.1 13 = nI (100 - aFl (gH g)) := by rw [hR.2.2.1.1.2.2.2.2.1]; exact pk_sub (a := 100) hfl
  rw [ec]
  generalize hc : 100 - aFl (gH g) = c at kk
  have cl : c ≤ 100 := by omega
  have gp : 0 < Nat.gcd c 100 := Nat.gcd_pos_of_pos_right c (by decide)
  have gl : Nat.gcd c 100 ≤ 100 := Nat.gcd_le_right c (by decide)
  refine tX9_greatestDivisor cl ?_
  have fin : ∀ v, v ≤ 100 → fOd c n y = (v / Nat.gcd c 100) ^ n → px_W E mX9_odds (d + 20) 0 0 46 [.null, .int (nI n), .null, .null, .int (nI (Nat.gcd c 100)), .null, .null, .null] [.int (nI v)] w Q := by
    intro v hv e
    refine bX9_odds_46 hw h1 (nI_ne0 gp (by omega)) ?_
    rw [pk_div (by omega) gp (by omega)]
    have key : ∀ i, i ≤ n → px_W E mX9_odds (d + 20) 0 0 57 [.null, .int (nI n), .null, .null, .null, .int (nI (v / Nat.gcd c 100)), .int (nI ((v / Nat.gcd c 100) ^ i)), .int (nI i)] [] w Q := by
      refine za_up n _ (fun i hi ih => ?_)
      refine bX9_odds_57 hw h1 (fun q => ?_) (fun q => ?_)
      · have : i = n := by have := za_le (by omega) (by omega) q; omega
        subst this
        rw [e] at kk
        exact kk
      · have hlt : i < n := za_nle (by omega) (by omega) q
        rw [pk_mul, nI_1, ← Nat.pow_succ]
        exact ih hlt
    exact key 0 (Nat.zero_le _)
  refine bX9_odds_34 hw h1 (fun q => ?_) (fun q => ?_)
  · exact fin 100 (by omega) (by unfold fOd; rw [if_neg q])
  · exact fin c cl (by unfold fOd; rw [if_pos q])
theorem tX9_lies {x : Int32} (hg : WG g) (hR : RX t g w) (k : ∀ w', RX t g w' → agX w w' → Q (some (.int (fLies g x))) w') : px_Call E (d + 20) 0 0 mX9_lies [.ref 1, .int x] w Q := by
  have hw := hR.1
  have hF := hR.2.2.2.2.2.2.2.2.2.2.1
  have c6 := hg.2.2.2.2.1
  have kk := k w hR agX.rf
  unfold fLies at kk
  have no : ¬ V (gC g) x → px_W E mX9_lies (d + 20) 0 0 21 [.null, .null] [] w Q := fun q => bX9_lies_21 hw (bX9_lies_23 hw (by rw [if_neg q] at kk; exact kk))
  refine eX9_lies hw (fun a => no (fun q => q.1 a)) (fun a b => no (fun q => q.2 (by rw [hF.2.1] at b; exact b))) (fun a b => ?_)
  rw [hF.2.1] at b
  have va : V (gC g) x := ⟨a, b⟩
  rw [if_pos va] at kk
  obtain ⟨p, hp, rfl, ep⟩ := V_of (by omega) va
  refine bX9_lies_12 hw p rfl (by omega) (bX9_lies_23 hw ?_)
  rw [ep, ← hR.2.2.2.2.2.2.2.2.1 p hp] at kk
  exact kk
theorem tX9_about {x : Int32} (hg : WG g) (hR : RX t g w) (k : ∀ w', RX t g w' → agX w w' → Q (some (.int (fAbout g x))) w') : px_Call E (d + 20) 0 0 mX9_about [.ref 1, .int x] w Q := by
  have hF := hR.2.2.2.2.2.2.2.2.2.2.1
  have kk := k w hR agX.rf
  have eu : hX3_redoable w = nI (gB g - gA g) := by
    show pw_I w 38 2 - pw_I w 38 1 = _
    rw [hR.2.2.2.2.1.1, hR.2.2.2.2.1.2.1]
    exact pk_sub hg.2.1.2.1
  unfold fAbout at kk
  refine eX9_about hR.1 hR.2.1.1 (fun a0 => ?_) (fun a0 a1 => ?_) (fun a0 a1 a2 => ?_) (fun a0 a1 a2 a3 => ?_) (fun a0 a1 a2 a3 a4 => ?_) (fun a0 a1 a2 a3 a4 a5 => ?_) (fun a0 a1 a2 a3 a4 a5 a6 => ?_) (fun a0 a1 a2 a3 a4 a5 a6 a7 => ?_) (fun a0 a1 a2 a3 a4 a5 a6 a7 a8 => ?_) (fun a0 a1 a2 a3 a4 a5 a6 a7 a8 a9 => ?_) (fun a0 a1 a2 a3 a4 a5 a6 a7 a8 a9 a10 => ?_) (fun a0 a1 a2 a3 a4 a5 a6 a7 a8 a9 a10 a11 => ?_) (fun a0 a1 a2 a3 a4 a5 a6 a7 a8 a9 a10 a11 a12 => ?_) (fun a0 a1 a2 a3 a4 a5 a6 a7 a8 a9 a10 a11 a12 a13 => ?_) (fun a0 a1 a2 a3 a4 a5 a6 a7 a8 a9 a10 a11 a12 a13 a14 => ?_) (fun a0 a1 a2 a3 a4 a5 a6 a7 a8 a9 a10 a11 a12 a13 a14 => ?_)
  · rw [if_pos a0, ← hR.2.2.1.1.1] at kk; exact kk
  · rw [if_neg a0, if_pos a1, ← hR.2.2.1.1.2.1] at kk; exact kk
  · rw [if_neg a0, if_neg a1, if_pos a2, ← hR.2.2.1.1.2.2.1] at kk; exact kk
  · rw [if_neg a0, if_neg a1, if_neg a2, if_pos a3, ← hR.2.2.2.1.2.2.1] at kk; exact kk
  · rw [if_neg a0, if_neg a1, if_neg a2, if_neg a3, if_pos a4, ← hR.2.2.2.1.2.2.2.1] at kk; exact kk
  · rw [if_neg a0, if_neg a1, if_neg a2, if_neg a3, if_neg a4, if_pos a5, ← hR.2.2.2.1.2.2.2.2] at kk; exact kk
  · rw [if_neg a0, if_neg a1, if_neg a2, if_neg a3, if_neg a4, if_neg a5, if_pos a6, ← hR.2.2.2.2.1.1] at kk; exact kk
  · rw [if_neg a0, if_neg a1, if_neg a2, if_neg a3, if_neg a4, if_neg a5, if_neg a6, if_pos a7, ← eu] at kk; exact kk
  · rw [if_neg a0, if_neg a1, if_neg a2, if_neg a3, if_neg a4, if_neg a5, if_neg a6, if_neg a7, if_pos a8, ← hR.2.2.2.2.2.2.1.1] at kk; exact kk
  · rw [if_neg a0, if_neg a1, if_neg a2, if_neg a3, if_neg a4, if_neg a5, if_neg a6, if_neg a7, if_neg a8, if_pos a9, ← hR.2.2.2.2.2.2.1.2.1] at kk; exact kk
  · rw [if_neg a0, if_neg a1, if_neg a2, if_neg a3, if_neg a4, if_neg a5, if_neg a6, if_neg a7, if_neg a8, if_neg a9, if_pos a10, ← hF.2.2.1] at kk; exact kk
  · rw [if_neg a0, if_neg a1, if_neg a2, if_neg a3, if_neg a4, if_neg a5, if_neg a6, if_neg a7, if_neg a8, if_neg a9, if_neg a10, if_pos a11, ← hR.2.2.1.2.2.2.2.2.2.1] at kk; exact kk
  · rw [if_neg a0, if_neg a1, if_neg a2, if_neg a3, if_neg a4, if_neg a5, if_neg a6, if_neg a7, if_neg a8, if_neg a9, if_neg a10, if_neg a11, if_pos a12, ← hF.2.1] at kk; exact kk
  · rw [if_neg a0, if_neg a1, if_neg a2, if_neg a3, if_neg a4, if_neg a5, if_neg a6, if_neg a7, if_neg a8, if_neg a9, if_neg a10, if_neg a11, if_neg a12, if_pos a13, ← hR.2.2.1.1.2.2.2.1] at kk; exact kk
  · rw [if_neg a0, if_neg a1, if_neg a2, if_neg a3, if_neg a4, if_neg a5, if_neg a6, if_neg a7, if_neg a8, if_neg a9, if_neg a10, if_neg a11, if_neg a12, if_neg a13, if_pos a14, ← hR.2.2.1.1.2.2.2.2.1] at kk; exact kk
  · rw [if_neg a0, if_neg a1, if_neg a2, if_neg a3, if_neg a4, if_neg a5, if_neg a6, if_neg a7, if_neg a8, if_neg a9, if_neg a10, if_neg a11, if_neg a12, if_neg a13, if_neg a14] at kk; exact kk
end XP
