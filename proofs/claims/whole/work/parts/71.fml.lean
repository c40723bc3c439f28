/-! formulas: what the class reads, as a function -/
/-- the operator at a level -/
def oAt (T : Nat → Nat) (n p lv : Nat) : Int32 := if tC T n p = 4 then (if lv = 0 ∧ tV T n p = 12 then -7 else if lv = 1 ∧ tV T n p = 13 then -8 else -100) else if tC T n p = 5 then (if lv = 4 ∧ tV T n p = 37 then -16 else if lv = 4 ∧ tV T n p = 42 then -14 else if lv = 3 ∧ tV T n p = 43 then -12 else if lv = 3 ∧ tV T n p = 45 then -13 else if lv = 4 ∧ tV T n p = 47 then -15 else if lv = 2 ∧ tV T n p = 60 then -9 else if lv = 2 ∧ tV T n p = 61 then -11 else if lv = 2 ∧ tV T n p = 62 then -10 else -100) else -100
/-- the unit at p, if it is one without brackets -/
def uAt (T : Nat → Nat) (n p : Nat) : Int32 := if tC T n p = 2 then nI (tV T n p) else if tC T n p = 4 then (if tV T n p = 15 then -1 else if tV T n p = 16 then -2 else if tV T n p = 17 then -3 else if tV T n p = 18 then -4 else if tV T n p = 19 then -5 else -100) else -100
abbrev FC : Type := Nat × Nat × List Int32
/-- what comes behind the first part of a chain -/
def rcL (T : Nat → Nat) (n lv : Nat) (f : FC → PR FC) : Nat → Nat → FC → PR FC
  | 0, _, c => .inr c
  | m + 1, i, c => if oAt T n c.1 lv = -100 then .inr c else if lv = 2 ∧ 0 < i then .inr c else pB (f (tE T n c.1, c.2)) (fun z => rcL T n lv f m (i + 1) (z.1, z.2.1, z.2.2 ++ [oAt T n c.1 lv]))
/-- readChain, with fuel -/
def rc (T : Nat → Nat) (n : Nat) : Nat → Nat → Nat → FC → PR FC
  | 0, _, _, c => .inl (rfu T n c.1)
  | m + 1, lv, wi, c =>
    if 4 < lv then
      (if tC T n c.1 = 5 ∧ tV T n c.1 = 40 then
        (if 30 ≤ c.2.1 ∨ 7 ≤ wi then .inl (rfu T n c.1)
         else pB (rc T n m 0 (wi + 1) (tE T n c.1, c.2.1 + 1, c.2.2)) (fun z => if tC T n z.1 = 5 ∧ tV T n z.1 = 41 then .inr (tE T n z.1, z.2) else .inl (rfu T n z.1)))
       else if uAt T n c.1 = -100 then .inl (rfu T n c.1)
       else if 30 ≤ c.2.1 then .inl (rfu T n c.1)
       else .inr (tE T n c.1, c.2.1 + 1, c.2.2 ++ [uAt T n c.1]))
    else if lv = 2 ∧ tC T n c.1 = 4 ∧ tV T n c.1 = 14 then
      (if 7 ≤ wi then .inl (rfu T n c.1) else pB (rc T n m 2 (wi + 1) (tE T n c.1, c.2)) (fun z => .inr (z.1, z.2.1, z.2.2 ++ [-6])))
    else pB (rc T n m (lv + 1) wi c) (rcL T n lv (rc T n m (lv + 1) wi) 30 0)
