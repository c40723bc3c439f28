/-! what lies ahead, in numbers -/
def aAbk (h : aH) (s : aS) : Nat → Nat
  | 0 => 0
  | k + 1 => if aBd h ≤ sL s k then aAbk h s k ||| 2 ^ k else aAbk h s k
def aAb (h : aH) (s : aS) : Nat := aAbk h s (aNp h)
theorem aAbk_lt (h : aH) (s : aS) : ∀ k, aAbk h s k < 2 ^ k
  | 0 => Nat.zero_lt_one
  | k + 1 => by
    have ih := aAbk_lt h s k
    have e : 2 ^ (k + 1) = 2 ^ k * 2 := Nat.pow_succ 2 k
    unfold aAbk
    split
    · exact Nat.or_lt_two_pow (by omega) (by omega)
    · omega
theorem aAb_lt {h : aH} (hh : aWH h) (s : aS) : aAb h s < 64 := Nat.lt_of_lt_of_le (aAbk_lt h s _) (Nat.pow_le_pow_right (n := 2) (by decide) hh.1)
/-- behind how many days, from k on, one of m is abed first; -1 if not in n days more -/
def aTill (h : aH) (ro : Nat → Nat) (m : Nat) : Nat → Nat → aS → Int32
  | 0, k, s => if aAb h s &&& m = 0 then -1 else nI k
  | n + 1, k, s => if aAb h s &&& m = 0 then aTill h ro m n (k + 1) (aDay h ro false s) else nI k
/-- on which day from k on the MEETING i takes place first -/
def aNx (h : aH) (ro : Nat → Nat) (i : Nat) : Nat → Nat → aS → Int32
  | 0, _, _ => -1
  | n + 1, k, s => if (aMet h s).testBit i = true then nI k else aNx h ro i n (k + 1) (aDay h ro false s)
def sSetF (s : aS) (p v : Nat) : aS := (za_u (sF s) p v, sL s, sB s, sD s, sE s)
def sSetB (s : aS) (b : Nat) : aS := (sF s, sL s, b, sD s, sE s)
def sAllF (s : aS) (v : Nat) : aS := (fun _ => v, sL s, sB s, sD s, sE s)
def aGr (h : aH) (ro : Nat → Nat) (p n : Nat) (s : aS) : Nat → Nat → Int32
  | 0, _ => -1
  | j + 1, v => if aTill h ro (2 ^ p) n 0 (sSetF s p v) = -1 then nI v else aGr h ro p n s j (v + 1)
/-- of those that are weighed the first with the least -/
def aBst (f : Nat → Option Nat) : Nat → Option (Nat × Nat)
  | 0 => none
  | k + 1 => match f k with
    | none => aBst f k
    | some v => match aBst f k with
      | none => some (k, v)
      | some q => if v < q.2 then some (k, v) else some q
theorem aSum_le {f : Nat → Nat} : ∀ {n c : Nat}, (∀ i, i < n → f i ≤ c) → aSum f n ≤ n * c
  | 0, c, _ => by simp [aSum]
  | n + 1, c, h => by
    have ih := aSum_le (n := n) (fun i hi => h i (by omega))
    have h1 := h n (by omega)
    unfold aSum
    rw [Nat.succ_mul]
    omega
theorem aHurt_le {h : aH} {s : aS} (hh : aWH h) (hs : aWS h s) : aHurt h s ≤ 594 := by
  have h1 := aSum_le (f := sL s) (n := aNp h) (c := 99) (fun i hi => (hs.1 i hi).2)
  have h2 := hh.1
  unfold aHurt
  omega
theorem aWS.days {h : aH} {s : aS} {ro : Nat → Nat} {fl : Bool} (hh : aWH h) (hs : aWS h s) : ∀ n, sD s + n < 5000 → aWS h (aDays h ro fl n s) ∧ sD (aDays h ro fl n s) = sD s + n
  | 0, _ => ⟨hs, rfl⟩
  | n + 1, hn => by
    obtain ⟨h1, h2⟩ := aWS.days (ro := ro) (fl := fl) hh hs n (by omega)
    exact ⟨h1.day hh (by omega), by show sD (aDay h ro fl (aDays h ro fl n s)) = _; rw [aDay_D, h2]; omega⟩
theorem aWS.setF {h : aH} {s : aS} (hs : aWS h s) {p v : Nat} (hv : v ≤ 30) : aWS h (sSetF s p v) := ⟨fun i hi => ⟨za_ule hv (hs.1 i hi).1, (hs.1 i hi).2⟩, hs.2⟩
theorem aWS.setB {h : aH} {s : aS} (hs : aWS h s) {b : Nat} (hb : b < 512) : aWS h (sSetB s b) := ⟨hs.1, hb, hs.2.2⟩
theorem aWS.allF {h : aH} {s : aS} (hs : aWS h s) {v : Nat} (hv : v ≤ 30) : aWS h (sAllF s v) := ⟨fun i hi => ⟨hv, (hs.1 i hi).2⟩, hs.2⟩
