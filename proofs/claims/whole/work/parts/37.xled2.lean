/-! the class: what is kept of acts; what is seen -/
def XL (h : aH) (R : Nat → aS) (a b : Nat) (w : pw_W) : Prop := pw_I w 38 1 = nI a ∧ pw_I w 38 2 = nI b ∧ ∀ i, i ≤ b → RXr h (R i) w 39 (15 * i)
def aKp (R : Nat → aS) (a : Nat) (s : aS) : (Nat → aS) × Nat := if a < 40 then (za_u R (a + 1) s, a + 1) else (za_u (fun i => R (i + 1)) 40 s, 40)
theorem XL.ag {h : aH} {R : Nat → aS} {a b : Nat} {w w' : pw_W} {S : List Nat} (hn : aNp h ≤ 6) (hL : XL h R a b w) (ha : ag S w w') (n : 38 ∉ S ∧ 39 ∉ S) : XL h R a b w' :=
  ⟨(ha.I n.1 _).trans hL.1, (ha.I n.1 _).trans hL.2.1, fun i hi => (hL.2.2 i hi).ag hn ha n.2⟩
section XO
variable {E : px_E} {d : Nat} {w : pw_W} {Q : Option Value → pw_W → Prop} {t : ct_T} {h : aH} {s : aS} {r0 : Nat}
theorem sh39 : (cs t).2.1 39 = (100, 615) := rfl
theorem sh40 : (cs t).2.1 40 = (100, 45) := rfl
theorem tX3_keepAct {R : Nat → aS} {a b : Nat} (hw : w.1 = cs t) (hn : aNp h ≤ 6) (hS : RXS h s w 35) (hL : XL h R a b w) (hab : a ≤ b) (hb : b ≤ 40) (k : ∀ w', ag [38, 39] w w' → XL h (aKp R a s).1 (aKp R a s).2 (aKp R a s).2 w' → Q none w') :
    px_Call E (d + 2) 0 0 mX3_keepAct [.ref 38, .ref 35] w Q := by
  have go : ∀ (w1 : pw_W) (R1 : Nat → aS) (c : Nat), c < 40 → ag [38, 39] w w1 → pw_I w1 38 1 = nI c → (∀ i, i ≤ c → RXr h (R1 i) w1 39 (15 * i)) → (za_u R1 (c + 1) s, c + 1) = aKp R a s → px_W E mX3_keepAct (d + 2) 0 0 32 [.ref 38, .ref 35] [] w1 Q := by
    intro w1 R1 c hc a1 e1 r1 ek
    have hw1 := a1.1.trans hw
    have S1 := hS.ag a1 (by decide) (by decide) (by decide)
    refine bX3_keepAct_32 hw1 st35 ?_
    rw [e1, nI_1]
    have a2 : ag [38, 39] w1 (pw_sI (pw_sI w1 38 1 (nI (c + 1))) 38 2 (nI (c + 1))) := (ag.sI (by decide)).tr (ag.sI (by decide))
    have a2' : ag [38] w1 (pw_sI (pw_sI w1 38 1 (nI (c + 1))) 38 2 (nI (c + 1))) := (ag.sI (by decide)).tr (ag.sI (by decide))
    refine tX8_writeTo (hI (hI hw1)) hn (S1.ag a2 (by decide) (by decide) (by decide)) sh39 (by decide) (by omega) (by decide) (fun w3 a3 o3 R3 => ?_)
    refine bX3_keepAct_62 (a3.1.trans (hI (hI hw1))) st35 (k w3 (a1.tr (a2.tr (a3.mono (by simp)))) ?_)
    rw [← ek]
    refine ⟨?_, ?_, fun i hi => ?_⟩
    · rw [a3.I (by decide), pw_oth (fun _ z => by omega), pw_same]
    · rw [a3.I (by decide), pw_same]
    · show RXr h (za_u R1 (c + 1) s i) w3 39 (15 * i)
      have hi : i ≤ c + 1 := hi
      by_cases e : i = c + 1
      · subst e; rw [za_us]; exact R3
      · rw [za_un e]
        refine (r1 i (by omega)).eqv hn (fun j hj => ?_)
        rw [o3 _ (by omega)]
        exact a2'.I (by decide) _
  refine eX3_keepAct hw st35 (fun q => ?_) (fun q => ?_) <;> rw [hL.1] at q
  · have q := za_lt (b := 40) (by omega) (by omega) q
    exact go w R a q ag.rf hL.1 (fun i hi => hL.2.2 i (by omega)) (by unfold aKp; rw [if_pos q])
  · have q := za_nlt (b := 40) (by omega) (by omega) q
    have ea : a = 40 := by omega
    refine bX3_keepAct_9 hw st35 (go _ (fun i => R (i + 1)) 39 (by omega) ((ag.sA (by decide)).tr (ag.sI (by decide))) pw_same (fun i hi => ?_) (by unfold aKp; rw [if_neg (by omega)]))
    refine (hL.2.2 (i + 1) (by omega)).eqv hn (fun j hj => ?_)
    rw [pw_oth (fun z _ => by omega), pw_As, va_in (by omega), show 15 + (15 * i + j - 0) = 15 * (i + 1) + j by omega]
theorem tX3_restart (hw : w.1 = cs t) (hn : aNp h ≤ 6) (hS : RXS h s w 35) (k : ∀ w', ag [38, 39] w w' → XL h (fun _ => s) 0 0 w' → Q none w') :
    px_Call E (d + 2) 0 0 mX3_restart [.ref 38, .ref 35] w Q := by
  refine eX3_restart hw st35 ?_
  have a2 : ag [38, 39] w (pw_sI (pw_sI w 38 1 0) 38 2 0) := (ag.sI (by decide)).tr (ag.sI (by decide))
  refine tX8_writeTo (j := 0) (hI (hI hw)) hn (hS.ag a2 (by decide) (by decide) (by decide)) sh39 (by decide) (by omega) (by decide) (fun w3 a3 o3 R3 => ?_)
  refine bX3_restart_19 (a3.1.trans (hI (hI hw))) st35 (k w3 (a2.tr (a3.mono (by simp))) ⟨?_, ?_, fun i hi => ?_⟩)
  · rw [a3.I (by decide), pw_oth (fun _ z => by omega), pw_same]; rfl
  · rw [a3.I (by decide), pw_same]; rfl
  · rw [show i = 0 by omega]; exact R3
theorem tX3_stepBack {R : Nat → aS} {a b : Nat} (hw : w.1 = cs t) (hn : aNp h ≤ 6) (hL : XL h R a b w) (hab : a ≤ b) (hb : b ≤ 40) (k0 : a = 0 → Q (some (.int 0)) w) (k1 : ∀ w', 0 < a → ag [35, 36, 37, 38] w w' → XL h R (a - 1) b w' → RXS h (R (a - 1)) w' 35 → Q (some (.int 1)) w') :
    px_Call E (d + 2) 0 0 mX3_stepBack [.ref 38, .ref 35] w Q := by
  refine eX3_stepBack hw st35 (fun q => ?_) (fun q => ?_) <;> rw [hL.1] at q
  · have q : a ≠ 0 := za_ne (b := 0) (by omega) (by omega) q
    rw [hL.1, show nI a - 1 = nI (a - 1) from pk_sub (b := 1) (by omega)]
    have a2 : ag [38] w (pw_sI w 38 1 (nI (a - 1))) := ag.sI (by decide)
    refine tX8_readFrom (hI hw) hn ((hL.2.2 (a - 1) (by omega)).ag hn a2 (by decide)) sh39 (by decide) (by omega) (by decide) (fun w3 a3 S3 => ?_)
    refine bX3_stepBack_31 (a3.1.trans (hI hw)) st35 (k1 w3 (by omega) ((a2.mono (by simp)).tr (a3.mono (by simp))) ⟨?_, ?_, fun i hi => ?_⟩ S3)
    · rw [a3.I (by decide), pw_same]
    · rw [a3.I (by decide), pw_oth (fun _ z => by omega)]; exact hL.2.1
    · exact ((hL.2.2 i hi).ag hn a2 (by decide)).ag hn a3 (by decide)
  · exact k0 (za_eq (b := 0) (by omega) (by omega) q)
theorem tX3_stepOn {R : Nat → aS} {a b : Nat} (hw : w.1 = cs t) (hn : aNp h ≤ 6) (hL : XL h R a b w) (hab : a ≤ b) (hb : b ≤ 40) (k0 : a = b → Q (some (.int 0)) w) (k1 : ∀ w', a < b → ag [35, 36, 37, 38] w w' → XL h R (a + 1) b w' → RXS h (R (a + 1)) w' 35 → Q (some (.int 1)) w') :
    px_Call E (d + 2) 0 0 mX3_stepOn [.ref 38, .ref 35] w Q := by
  refine eX3_stepOn hw st35 (fun q => ?_) (fun q => ?_) <;> rw [hL.1, hL.2.1] at q
  · have q : a < b := za_lt (by omega) (by omega) q
    rw [hL.1, nI_1]
    have a2 : ag [38] w (pw_sI w 38 1 (nI (a + 1))) := ag.sI (by decide)
    refine tX8_readFrom (hI hw) hn ((hL.2.2 (a + 1) (by omega)).ag hn a2 (by decide)) sh39 (by decide) (by omega) (by decide) (fun w3 a3 S3 => ?_)
    refine bX3_stepOn_35 (a3.1.trans (hI hw)) st35 (k1 w3 (by omega) ((a2.mono (by simp)).tr (a3.mono (by simp))) ⟨?_, ?_, fun i hi => ?_⟩ S3)
    · rw [a3.I (by decide), pw_same]
    · rw [a3.I (by decide), pw_oth (fun _ z => by omega)]; exact hL.2.1
    · exact ((hL.2.2 i hi).ag hn a2 (by decide)).ag hn a3 (by decide)
  · have := za_nlt (by omega) (by omega) q
    exact k0 (by omega)
end XO
/-! what is seen: numbers -/
abbrev aG : Type := Nat → Nat → Nat
def aU (u : Nat) : Int32 := if u = 0 then -1 else nI (u - 1)
def aWG (h : aH) (g : aG) (n tm : Nat) : Prop := n ≤ 30 ∧ tm ≤ 100000 ∧ ∀ j, j < n → g 0 j ≤ 14 ∧ g 1 j < aNp h ∧ g 2 j ≤ 99 ∧ g 3 j ≤ 1 ∧ g 4 j ≤ 100000 ∧ g 5 j ≤ 100001
def aTold (h : aH) : aS := (aFm h, aLu h, 0, 0, aDr h)
def aWas0 (h : aH) (v : Nat) : aS := sSetF (aTold h) (aNp h - 1) v
def aWas (h : aH) (v d p : Nat) : Nat := sL (aDays h (aRo h) false d (aWas0 h v)) p
abbrev aCnt (g : aG) (j : Nat) (k : Int32) : Prop := ¬ k < nI (g 4 j) ∧ (g 5 j = 0 ∨ k < nI (g 5 j - 1))
abbrev aAg1 (h : aH) (g : aG) (v j : Nat) : Prop := (if aWas h v (g 0 j) (g 1 j) < g 2 j then 0 else 1) = g 3 j
def aAgK (h : aH) (g : aG) (v : Nat) (k : Int32) : Nat → Bool
  | 0 => true
  | j + 1 => aAgK h g v k j && (!decide (aCnt g j k) || decide (aAg1 h g v j))
theorem aAgK_s (h : aH) (g : aG) (v : Nat) (k : Int32) (j : Nat) : aAgK h g v k (j + 1) = (aAgK h g v k j && (!decide (aCnt g j k) || decide (aAg1 h g v j))) := rfl
theorem aAgK_no {h : aH} {g : aG} {v : Nat} {k : Int32} : ∀ {n j : Nat}, j ≤ n → aAgK h g v k j = false → aAgK h g v k n = false
  | 0, j, hj, e => by rw [show j = 0 by omega] at e; exact e
  | n + 1, j, hj, e => by
    by_cases z : j = n + 1
    · rw [z] at e; exact e
    · rw [aAgK_s, aAgK_no (n := n) (by omega) e]; rfl
theorem aAgK_yes {h : aH} {g : aG} {v : Nat} {k : Int32} {j : Nat} (a : aAgK h g v k j = true) (y : aCnt g j k → aAg1 h g v j) : aAgK h g v k (j + 1) = true := by
  rw [aAgK_s, a, Bool.true_and, Bool.or_eq_true, Bool.not_eq_true', decide_eq_false_iff_not, decide_eq_true_eq]
  by_cases c : aCnt g j k
  · exact Or.inr (y c)
  · exact Or.inl c
theorem aAgK_nay {h : aH} {g : aG} {v : Nat} {k : Int32} {j : Nat} (c : aCnt g j k) (y : ¬ aAg1 h g v j) : aAgK h g v k (j + 1) = false := by
  rw [aAgK_s, Bool.and_eq_false_iff]
  refine Or.inr ?_
  rw [Bool.or_eq_false_iff, Bool.not_eq_false', decide_eq_true_eq, decide_eq_false_iff_not]
  exact ⟨c, y⟩
def aFtK (h : aH) (g : aG) (n : Nat) (k : Int32) : Nat → Nat
  | 0 => 0
  | v + 1 => if aAgK h g v k n = true then aFtK h g n k v ||| 2 ^ v else aFtK h g n k v
theorem aFtK_s (h : aH) (g : aG) (n : Nat) (k : Int32) (v : Nat) : aFtK h g n k (v + 1) = if aAgK h g v k n = true then aFtK h g n k v ||| 2 ^ v else aFtK h g n k v := rfl
theorem aFtK_lt {h : aH} {g : aG} {n : Nat} {k : Int32} : ∀ v, aFtK h g n k v < 2 ^ v
  | 0 => Nat.zero_lt_one
  | v + 1 => by
    have ih := aFtK_lt (h := h) (g := g) (n := n) (k := k) v
    have e : 2 ^ (v + 1) = 2 ^ v * 2 := Nat.pow_succ 2 v
    rw [aFtK_s]
    split
    · exact Nat.or_lt_two_pow (by omega) (by omega)
    · omega
theorem aFtK_bit {h : aH} {g : aG} {n : Nat} {k : Int32} : ∀ v a, (aFtK h g n k v).testBit a = (decide (a < v) && aAgK h g a k n)
  | 0, a => by simp [aFtK]
  | v + 1, a => by
    have ih := aFtK_bit (h := h) (g := g) (n := n) (k := k) v a
    rw [aFtK_s]
    split
    · rename_i e
      rw [Nat.testBit_or, ih, Nat.testBit_two_pow]
      by_cases z : v = a
      · subst z; simp [e]
      · by_cases y : a < v
        · simp [y, z, show a < v + 1 by omega]
        · simp [y, z, show ¬ a < v + 1 by omega]
    · rename_i e
      rw [ih]
      by_cases z : v = a
      · subst z; simp [e]
      · by_cases y : a < v
        · simp [y, show a < v + 1 by omega]
        · simp [y, show ¬ a < v + 1 by omega]
def aFt (h : aH) (g : aG) (n : Nat) (k : Int32) : Nat := if aNp h = 0 then 0 else aFtK h g n k 31
theorem aFt_lt {h : aH} {g : aG} {n : Nat} {k : Int32} : aFt h g n k < 2 ^ 31 := by
  unfold aFt
  split
  · decide
  · exact aFtK_lt 31
/-- of the ones that f takes, how many have the same at the most -/
def aLfK (f : Nat → Bool) (c : Nat → Nat) : Nat → (Nat → Nat) × Nat
  | 0 => (fun _ => 0, 0)
  | v + 1 => if f v = true then (za_u (aLfK f c v).1 (c v) ((aLfK f c v).1 (c v) + 1), max (aLfK f c v).2 ((aLfK f c v).1 (c v) + 1)) else aLfK f c v
theorem aLfK_s (f : Nat → Bool) (c : Nat → Nat) (v : Nat) : aLfK f c (v + 1) = if f v = true then (za_u (aLfK f c v).1 (c v) ((aLfK f c v).1 (c v) + 1), max (aLfK f c v).2 ((aLfK f c v).1 (c v) + 1)) else aLfK f c v := rfl
theorem aLfK_le (f : Nat → Bool) (c : Nat → Nat) : ∀ v, (∀ x, (aLfK f c v).1 x ≤ v) ∧ (aLfK f c v).2 ≤ v
  | 0 => ⟨fun _ => Nat.le_refl _, Nat.le_refl _⟩
  | v + 1 => by
    obtain ⟨h1, h2⟩ := aLfK_le f c v
    rw [aLfK_s]
    split
    · have := h1 (c v)
      exact ⟨fun x => za_ule (by omega) (by have := h1 x; omega), by show max _ _ ≤ _; omega⟩
    · exact ⟨fun x => by have := h1 x; omega, by omega⟩
def aLf (h : aH) (g : aG) (n : Nat) (k : Int32) (d p : Nat) : Nat := (aLfK (fun v => aAgK h g v k n) (fun v => aWas h v d p) 31).2
def aAs (f : Nat → Nat) : Nat → Nat
  | 0 => 0
  | k + 1 => if f (k + 1) < f (aAs f k) then k + 1 else aAs f k
theorem aWas0_W {h : aH} (hh : aWH h) {v : Nat} (hv : v ≤ 30) : aWS h (aWas0 h v) := by
  refine aWS.setF (s := aTold h) ⟨fun i hi => ?_, show 0 < 512 by decide, show 0 < 5000 by decide, ?_⟩ hv
  · have := hh.2.2.2.2.2.2.2.1 i hi
    exact ⟨this.1, this.2.2⟩
  · have := hh.2.2.2.2.2.1
    show aDr h < 1000
    omega
theorem aWas_le {h : aH} (hh : aWH h) {v d p : Nat} (hv : v ≤ 30) (hd : d ≤ 14) (hp : p < aNp h) : aWas h v d p ≤ 99 := ((aWS.days (ro := aRo h) (fl := false) hh (aWas0_W hh hv) d (by show 0 + d < 5000; omega)).1.1 p hp).2
