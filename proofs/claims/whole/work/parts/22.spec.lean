/-! what a HAMLET is, what a state is, what a day does: in numbers -/
abbrev aS : Type := (Nat → Nat) × (Nat → Nat) × Nat × Nat × Nat
def sF (s : aS) : Nat → Nat := s.1
def sL (s : aS) : Nat → Nat := s.2.1
def sB (s : aS) : Nat := s.2.2.1
def sD (s : aS) : Nat := s.2.2.2.1
def sE (s : aS) : Nat := s.2.2.2.2
abbrev aH : Type := (Nat → Nat → Nat) × List Int32
def aNp (h : aH) : Nat := h.1 0 0
def aNm (h : aH) : Nat := h.1 0 1
def aNb (h : aH) : Nat := h.1 0 2
def aBd (h : aH) : Nat := h.1 0 3
def aFl (h : aH) : Nat := h.1 0 4
def aDr (h : aH) : Nat := h.1 0 5
def aUn (h : aH) : Nat := h.1 0 6
def aFm (h : aH) : Nat → Nat := h.1 1
def aLe (h : aH) : Nat → Nat := h.1 2
def aLu (h : aH) : Nat → Nat := h.1 3
def aFi (h : aH) : Nat → Nat := h.1 4
def aSe (h : aH) : Nat → Nat := h.1 5
def aWk (h : aH) : Nat → Nat := h.1 6
def aCo (h : aH) : Nat → Nat := h.1 7
def aRs (h : aH) : Nat → Nat := h.1 8
def aRo (h : aH) : Nat → Nat := h.1 9
def aPr (h : aH) : List Int32 := h.2
/-! the formula: steps over a stack of numbers; a step that is 0 or more is a number -/
def fStep (own other sore day c : Int32) (st : List Int32) : List Int32 :=
  if c < -5 then (if c = -6 then (match st with
    | [] => []
    | a :: r => (if a = 0 then 1 else 0) :: r) else (match st with
    | b :: a :: r => hX1_joined c a b :: r
    | _ => []))
  else (if c < 0 then hX1_known c own other sore day else c) :: st
def fRun (own other sore day : Int32) : List Int32 → List Int32 → List Int32
  | [], st => st
  | c :: cs, st => fRun own other sore day cs (fStep own other sore day c st)
/-- how deep the stack gets: a program that leaves one number, with at most 30 at a time -/
def fOK : List Int32 → Nat → Bool
  | [], n => n == 1
  | c :: cs, n => if c < -5 then (if c = -6 then decide (1 ≤ n) && fOK cs n else decide (2 ≤ n) && fOK cs (n - 1)) else decide (n < 30) && fOK cs (n + 1)
def fClamp (v : Int32) : Nat := if v < 0 then 0 else if 20 < v then 20 else v.toNatClampNeg
def fEv (pr : List Int32) (own other sore day : Nat) : Nat := fClamp ((fRun (nI own) (nI other) (nI sore) (nI day) pr []).getD 0 0)
def fDef : List Int32 := [9, -1, -13]
theorem fClamp_le (v : Int32) : fClamp v ≤ 20 := by
  unfold fClamp
  by_cases h1 : v < 0
  · rw [if_pos h1]; omega
  · rw [if_neg h1]
    by_cases h2 : 20 < v
    · rw [if_pos h2]; omega
    · rw [if_neg h2]
      obtain ⟨j, hj, rfl⟩ := nI_of h1
      rw [nI_clamp hj]
      have := za_nlt (a := 20) (b := j) (by omega) hj h2
      omega
theorem fEv_le (pr : List Int32) (a b c d : Nat) : fEv pr a b c d ≤ 20 := fClamp_le _
/-! a day -/
abbrev aTp (h : aH) (s : aS) (i : Nat) : Prop := sD s % 7 = aWk h i ∧ (sB s).testBit i = false ∧ sL s (aFi h i) < aBd h ∧ sL s (aSe h i) < aBd h
abbrev aEv (h : aH) (own other sore day : Nat) : Nat := fEv (aPr h) own other sore day
def aMq (h : aH) (s : aS) (a b : Nat) : aS :=
  ((if sF s a < sF s b then za_u (sF s) a (min (sF s b) (sF s a + aLe h a)) else if sF s b < sF s a then za_u (sF s) b (min (sF s a) (sF s b + aLe h b)) else sF s),
   za_u (za_u (sL s) a (min 99 (sL s a + aEv h (sF s a) (sF s b) (sL s a) (sD s)))) b (min 99 (sL s b + aEv h (sF s b) (sF s a) (sL s b) (sD s))),
   sB s, sD s, sE s)
abbrev aMt (h : aH) (s : aS) (i : Nat) : aS := aMq h s (aFi h i) (aSe h i)
/-- behind the first k of a day's MEETINGS, and which took place -/
def aMs (h : aH) : Nat → aS → aS × Nat
  | 0, s => (s, 0)
  | k + 1, s => if aTp h (aMs h k s).1 k then (aMt h (aMs h k s).1 k, (aMs h k s).2 ||| 2 ^ k) else aMs h k s
def aCl (h : aH) (s : aS) (b p : Nat) : aS := (sF s, za_u (sL s) p (sL s p - aCo h b), sB s, sD s, sE s)
/-- behind the first k BROTHERS, by the rounds ro -/
def aBs (h : aH) (ro : Nat → Nat) : Nat → aS → aS
  | 0, s => s
  | k + 1, s => aCl h (aBs h ro k s) k (ro (6 * k + sD s % aRs h k))
/-- behind the flares of the first k PEOPLE -/
def aFs (h : aH) : Nat → aS → aS
  | 0, s => s
  | k + 1, s =>
    if sL (aFs h k s) k = 0 then aFs h k s
    else (sF (aFs h k s), (if (sE (aFs h k s) * 137 + 71) % 1000 % 100 < aFl h then za_u (sL (aFs h k s)) k (min 99 (sL (aFs h k s) k + 1)) else sL (aFs h k s)), sB (aFs h k s), sD (aFs h k s), (sE (aFs h k s) * 137 + 71) % 1000)
def aDay (h : aH) (ro : Nat → Nat) (fl : Bool) (s : aS) : aS :=
  (fun q : aS => (sF q, sL q, sB q, sD q + 1, sE q)) (if fl then aFs h (aNp h) (aBs h ro (aNb h) (aMs h (aNm h) s).1) else aBs h ro (aNb h) (aMs h (aNm h) s).1)
def aMet (h : aH) (s : aS) : Nat := (aMs h (aNm h) s).2
/-- n days -/
def aDays (h : aH) (ro : Nat → Nat) (fl : Bool) : Nat → aS → aS
  | 0, s => s
  | n + 1, s => aDay h ro fl (aDays h ro fl n s)
def aSum (f : Nat → Nat) : Nat → Nat
  | 0 => 0
  | n + 1 => aSum f n + f n
def aHurt (h : aH) (s : aS) : Nat := aSum (sL s) (aNp h)
/-! what can be -/
def aWH (h : aH) : Prop := aNp h ≤ 6 ∧ aNm h ≤ 9 ∧ aNb h ≤ 2 ∧ (1 ≤ aBd h ∧ aBd h ≤ 99) ∧ aFl h ≤ 100 ∧ aDr h ≤ 999 ∧ aUn h ≤ 30 ∧ (∀ i, i < aNp h → aFm h i ≤ 30 ∧ aLe h i ≤ 9 ∧ aLu h i ≤ 99) ∧
  (∀ i, i < aNm h → aFi h i < aNp h ∧ aSe h i < aNp h ∧ aFi h i ≠ aSe h i ∧ aWk h i ≤ 6) ∧ (∀ b, b < aNb h → (1 ≤ aCo h b ∧ aCo h b ≤ 20) ∧ 1 ≤ aRs h b ∧ aRs h b ≤ 6) ∧
  (∀ b, b < aNb h → ∀ k, k < aRs h b → aRo h (6 * b + k) < aNp h) ∧ (∀ b, b < aNb h → ∀ k j, k < aRs h b → j < aRs h b → aRo h (6 * b + k) = aRo h (6 * b + j) → k = j) ∧ fOK (aPr h) 0 = true ∧ (aPr h).length ≤ 270
def aWS (h : aH) (s : aS) : Prop := (∀ i, i < aNp h → sF s i ≤ 30 ∧ sL s i ≤ 99) ∧ sB s < 512 ∧ sD s < 5000 ∧ sE s < 1000
/-- rounds that can be: of each BROTHER, of PEOPLE -/
def aWR (h : aH) (ro : Nat → Nat) : Prop := ∀ b, b < aNb h → ∀ k, k < aRs h b → ro (6 * b + k) < aNp h
