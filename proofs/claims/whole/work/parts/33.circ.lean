/-! who has to do with whom: in numbers, and on the class's side -/
def aFrK (h : aH) (B p : Nat) : Nat → Nat
  | 0 => 0
  | k + 1 => if B.testBit k = true then aFrK h B p k else
      (if aSe h k = p then (if aFi h k = p then aFrK h B p k ||| 2 ^ aSe h k else aFrK h B p k) ||| 2 ^ aFi h k else (if aFi h k = p then aFrK h B p k ||| 2 ^ aSe h k else aFrK h B p k))
def aFr (h : aH) (B p : Nat) : Nat := aFrK h B p (aNm h)
theorem aFrK_s (h : aH) (B p k : Nat) : aFrK h B p (k + 1) = if B.testBit k = true then aFrK h B p k else
      (if aSe h k = p then (if aFi h k = p then aFrK h B p k ||| 2 ^ aSe h k else aFrK h B p k) ||| 2 ^ aFi h k else (if aFi h k = p then aFrK h B p k ||| 2 ^ aSe h k else aFrK h B p k)) := rfl
theorem p6 {a n : Nat} (h : a < n) (hn : n ≤ 6) : 2 ^ a < 64 := show 2 ^ a < 2 ^ 6 from Nat.pow_lt_pow_right (by decide) (by omega)
theorem aFrK_lt {h : aH} (hh : aWH h) (B p : Nat) : ∀ k, k ≤ aNm h → aFrK h B p k < 64
  | 0, _ => Nat.zero_lt_succ _
  | k + 1, hk => by
    have ih := aFrK_lt hh B p k (by omega)
    obtain ⟨g1, g2, -⟩ := hh.2.2.2.2.2.2.2.2.1 k (by omega)
    have p1 := p6 g1 hh.1
    have p2 := p6 g2 hh.1
    have c1 : (if aFi h k = p then aFrK h B p k ||| 2 ^ aSe h k else aFrK h B p k) < 64 := by
      split
      · exact Nat.or_lt_two_pow (n := 6) ih p2
      · exact ih
    rw [aFrK_s]
    split
    · exact ih
    · split
      · exact Nat.or_lt_two_pow (n := 6) c1 p1
      · exact c1
theorem aFr_lt {h : aH} (hh : aWH h) (B p : Nat) : aFr h B p < 64 := aFrK_lt hh B p _ (Nat.le_refl _)
theorem aFrK_bit {h : aH} (B p a : Nat) : ∀ k, (aFrK h B p k).testBit a = true ↔ ∃ i, i < k ∧ B.testBit i = false ∧ ((aFi h i = p ∧ aSe h i = a) ∨ (aSe h i = p ∧ aFi h i = a))
  | 0 => by
    constructor
    · intro z; simp [aFrK] at z
    · rintro ⟨i, z, -⟩; omega
  | k + 1 => by
    have ih := aFrK_bit (h := h) B p a k
    have c1 : (if aFi h k = p then aFrK h B p k ||| 2 ^ aSe h k else aFrK h B p k).testBit a = true ↔ ((aFrK h B p k).testBit a = true ∨ (aFi h k = p ∧ aSe h k = a)) := by
      split
      · rename_i e
        rw [Nat.testBit_or, Nat.testBit_two_pow]
        simp [e]
      · rename_i e
        simp [e]
    have c2 : (if aSe h k = p then (if aFi h k = p then aFrK h B p k ||| 2 ^ aSe h k else aFrK h B p k) ||| 2 ^ aFi h k else (if aFi h k = p then aFrK h B p k ||| 2 ^ aSe h k else aFrK h B p k)).testBit a = true ↔ ((aFrK h B p k).testBit a = true ∨ (aFi h k = p ∧ aSe h k = a) ∨ (aSe h k = p ∧ aFi h k = a)) := by
      split
      · rename_i e
        rw [Nat.testBit_or, Bool.or_eq_true, c1, Nat.testBit_two_pow]
        simp [e, or_assoc]
      · rename_i e
        rw [c1]
        simp [e]
    rw [aFrK_s]
    split
    · rename_i e
      rw [ih]
      constructor
      · rintro ⟨i, h1, h2⟩
        exact ⟨i, by omega, h2⟩
      · rintro ⟨i, h1, h2, h3⟩
        refine ⟨i, ?_, h2, h3⟩
        by_cases hi : i = k
        · subst hi; rw [e] at h2; cases h2
        · omega
    · rename_i e
      have e : B.testBit k = false := by cases hb : B.testBit k with
        | false => rfl
        | true => exact absurd hb e
      rw [c2, ih]
      constructor
      · rintro (⟨i, h1, h2⟩ | h3)
        · exact ⟨i, by omega, h2⟩
        · exact ⟨k, by omega, e, h3⟩
      · rintro ⟨i, h1, h2, h3⟩
        by_cases hi : i = k
        · subst hi; exact Or.inr h3
        · exact Or.inl ⟨i, by omega, h2, h3⟩
/-- a step of a rumour -/
def aGo (h : aH) (B S : Nat) : Nat → Nat
  | 0 => S
  | k + 1 => if S.testBit k = true then aGo h B S k ||| aFr h B k else aGo h B S k
theorem aGo_s (h : aH) (B S k : Nat) : aGo h B S (k + 1) = if S.testBit k = true then aGo h B S k ||| aFr h B k else aGo h B S k := rfl
theorem aGo_lt {h : aH} (hh : aWH h) (B : Nat) {S : Nat} (hS : S < 64) : ∀ k, aGo h B S k < 64
  | 0 => hS
  | k + 1 => by
    have ih := aGo_lt hh B hS k
    rw [aGo_s]
    split
    · exact Nat.or_lt_two_pow (n := 6) ih (aFr_lt hh B k)
    · exact ih
def aRu (h : aH) (B o : Nat) : Nat → Nat → Nat → Int32
  | 0, _, _ => -1
  | f + 1, n, S => if S.testBit o = true then nI n else aRu h B o f (n + 1) (aGo h B S (aNp h))
/-- groups: the digits of a number, the first one's the highest -/
def dgt (m n x q : Nat) : Nat := x / m ^ (n - 1 - q) % m
def aPro (h : aH) (B m x : Nat) : Prop := ∀ i, i < aNm h → B.testBit i = false → dgt m (aNp h) x (aFi h i) ≠ dgt m (aNp h) x (aSe h i)
def aEvn (h : aH) (B m x : Nat) : Prop := (aNp h = 0 ∧ m = 0) ∨ (0 < aNp h ∧ 1 ≤ m ∧ m ≤ aNp h ∧ x < m ^ aNp h ∧ aPro h B m x ∧ (∀ y, y < x → ¬ aPro h B m y) ∧ ∀ k, 1 ≤ k → k < m → ∀ y, y < k ^ aNp h → ¬ aPro h B k y)
theorem aEvn_one {h : aH} {B m x m' x' : Nat} (h1 : aEvn h B m x) (h2 : aEvn h B m' x') : m = m' ∧ (0 < aNp h → x = x') := by
  rcases h1 with ⟨z1, rfl⟩ | ⟨z1, a1, a2, a3, a4, a5, a6⟩
  · rcases h2 with ⟨z2, rfl⟩ | ⟨z2, -⟩
    · exact ⟨rfl, fun z => by omega⟩
    · omega
  · rcases h2 with ⟨z2, rfl⟩ | ⟨z2, b1, b2, b3, b4, b5, b6⟩
    · omega
    · have e : m = m' := by
        rcases Nat.lt_trichotomy m m' with q | q | q
        · exact absurd a4 (b6 m a1 q x a3)
        · exact q
        · exact absurd b4 (a6 m' b1 q x' b3)
      subst e
      refine ⟨rfl, fun _ => ?_⟩
      rcases Nat.lt_trichotomy x x' with q | q | q
      · exact absurd a4 (b5 x q)
      · exact q
      · exact absurd b4 (a5 x' q)
theorem dgt_full : ∀ n, n ≤ 6 → 0 < n → ∃ x, x < n ^ n ∧ ∀ q, q < n → dgt n n x q = q := by
  intro n hn h0
  have key : ∀ n, n ≤ 6 → 0 < n → [0, 0, 1, 5, 27, 194, 1865].getD n 0 < n ^ n ∧ ∀ q, q < n → dgt n n ([0, 0, 1, 5, 27, 194, 1865].getD n 0) q = q := by decide +kernel
  exact ⟨_, key n hn h0⟩
theorem aPro_full {h : aH} (hh : aWH h) (B : Nat) (h0 : 0 < aNp h) : ∃ x, x < aNp h ^ aNp h ∧ aPro h B (aNp h) x := by
  obtain ⟨x, h1, h2⟩ := dgt_full (aNp h) hh.1 h0
  refine ⟨x, h1, fun i hi _ => ?_⟩
  obtain ⟨g1, g2, g3, -⟩ := hh.2.2.2.2.2.2.2.2.1 i hi
  rw [h2 _ g1, h2 _ g2]
  exact g3
theorem least_of {P : Nat → Prop} : ∀ n, P n → ∃ x, x ≤ n ∧ P x ∧ ∀ y, y < x → ¬ P y := by
  intro n
  induction n using Nat.strongRecOn with
  | ind n ih =>
    intro hn
    by_cases hz : ∃ y, y < n ∧ P y
    · obtain ⟨y, h1, h2⟩ := hz
      obtain ⟨x, a1, a2, a3⟩ := ih y h1 h2
      exact ⟨x, by omega, a2, a3⟩
    · exact ⟨n, Nat.le_refl _, hn, fun y hy hp => hz ⟨y, hy, hp⟩⟩
theorem dg_pre {m r p v x q : Nat} (hx : x / m ^ r = v) (hq : q < p) : dgt m (p + r) x q = v / m ^ (p - 1 - q) % m := by
  unfold dgt
  rw [← hx, Nat.div_div_eq_div_mul, ← Nat.pow_add, show p + r - 1 - q = r + (p - 1 - q) by omega]
theorem dg_next {m p v c q : Nat} (hc : c < m) (hq : q < p) : (v * m + c) / m ^ (p + 1 - 1 - q) % m = v / m ^ (p - 1 - q) % m := by
  rw [show p + 1 - 1 - q = 1 + (p - 1 - q) by omega, Nat.pow_add, Nat.pow_one, ← Nat.div_div_eq_div_mul]
  congr 2
  rw [Nat.mul_comm, Nat.mul_add_div (by omega), Nat.div_eq_of_lt hc, Nat.add_zero]
theorem dg_last {m p v c : Nat} (hc : c < m) : (v * m + c) / m ^ (p + 1 - 1 - p) % m = c := by
  rw [show p + 1 - 1 - p = 0 by omega, Nat.pow_zero, Nat.div_one, Nat.mul_comm, Nat.mul_add_mod, Nat.mod_eq_of_lt hc]
theorem dg_up {m r v c x : Nat} (hc : c < m) (h : x / m ^ r = v * m + c) : x / m ^ (r + 1) = v := by
  rw [Nat.pow_succ, ← Nat.div_div_eq_div_mul, h, Nat.mul_comm, Nat.mul_add_div (by omega), Nat.div_eq_of_lt hc, Nat.add_zero]
theorem dg_down {m r v x : Nat} (h : x / m ^ (r + 1) = v) : x / m ^ r = v * m + x / m ^ r % m := by
  rw [Nat.pow_succ, ← Nat.div_div_eq_div_mul] at h
  rw [← h, Nat.mul_comm]
  exact (Nat.div_add_mod _ _).symm
section XO
variable {E : px_E} {d : Nat} {w : pw_W} {Q : Option Value → pw_W → Prop} {t : ct_T} {h : aH} {s : aS} {r0 : Nat}
theorem tX0_companyOf {B p : Nat} (hw : w.1 = cs t) (hr0 : is_Hamlet r0) (hH : RXH h w r0) (hh : aWH h) (hB : B < 512) (hp : p < 6) (k : Q (some (.int (nI (aFr h B p)))) w) : px_Call E (d + 1) 0 0 mX0_companyOf [.ref 46, .ref r0, .int (nI B), .int (nI p)] w Q := by
  have nm := hh.2.1
  have np := hh.1
  refine eX0_companyOf hw hr0 ?_
  have key : ∀ i, i ≤ aNm h → px_W E mX0_companyOf (d + 1) 0 0 6 [.null, .ref r0, .int (nI B), .int (nI p), .int (nI (aFrK h B p i)), .int (nI i)] [] w Q := by
    refine za_up (aNm h) _ (fun i hi ih => ?_)
    refine bX0_companyOf_6 hw hr0 (fun q => ?_) (fun q z => ?_) (fun q z => ?_) <;> rw [hH.1.2.1] at q
    · have : i = aNm h := by have := za_le (by omega) (by omega) q; omega
      subst this
      exact k
    · have hlt : i < aNm h := za_nle (by omega) (by omega) q
      rw [za_tb0 (by omega) (by omega)] at z
      have ih := ih hlt
      rw [aFrK_s, if_pos (by cases hb : B.testBit i with
        | false => exact absurd hb z
        | true => rfl)] at ih
      refine bX0_companyOf_74 hw hr0 ?_
      rw [nI_1]
      exact ih
    · have hlt : i < aNm h := za_nle (by omega) (by omega) q
      rw [za_tb0 (by omega) (by omega)] at z
      obtain ⟨f1, f2, -⟩ := hH.2.2.1 i hlt
      obtain ⟨g1, g2, -⟩ := hh.2.2.2.2.2.2.2.2.1 i hlt
      have ih := ih hlt
      rw [aFrK_s, if_neg (by rw [z]; decide)] at ih
      have s49 : ∀ v, (if aFi h i = p then aFrK h B p i ||| 2 ^ aSe h i else aFrK h B p i) = v → px_W E mX0_companyOf (d + 1) 0 0 49 [.null, .ref r0, .int (nI B), .int (nI p), .int (nI v), .int (nI i)] [] w Q := by
        intro v hv
        rw [hv] at ih
        refine bX0_companyOf_49 hw hr0 i rfl (by omega) (fun y => ?_) (fun y => ?_) <;> rw [f2] at y
        · have y := za_ne (by omega) (by omega) y
          rw [if_neg y] at ih
          refine bX0_companyOf_74 hw hr0 ?_
          rw [nI_1]
          exact ih
        · have y := za_eq (by omega) (by omega) y
          rw [if_pos y] at ih
          refine bX0_companyOf_60 hw hr0 i rfl (by omega) (bX0_companyOf_74 hw hr0 ?_)
          rw [nI_1, f1, za_bit1 (by omega), za_or]
          exact ih
      refine bX0_companyOf_24 hw hr0 i rfl (by omega) (fun y => ?_) (fun y => ?_) <;> rw [f1] at y
      · have y := za_ne (by omega) (by omega) y
        exact s49 _ (if_neg y)
      · have y := za_eq (by omega) (by omega) y
        refine bX0_companyOf_35 hw hr0 i rfl (by omega) ?_
        rw [f2, za_bit1 (by omega), za_or]
        exact s49 _ (if_pos y)
  exact key 0 (Nat.zero_le _)
theorem tX0_stepsBetween {B p o : Nat} (hw : w.1 = cs t) (hr0 : is_Hamlet r0) (hH : RXH h w r0) (hh : aWH h) (hB : B < 512) (hp : p < aNp h) (ho : o < aNp h) (k : Q (some (.int (aRu h B o (aNp h) 0 (2 ^ p)))) w) : px_Call E (d + 2) 0 0 mX0_stepsBetween [.ref 46, .ref r0, .int (nI B), .int (nI p), .int (nI o)] w Q := by
  have np := hh.1
  refine eX0_stepsBetween hw hr0 ?_
  rw [za_bit1 (by omega)]
  have key : ∀ i, i ≤ aNp h → ∀ S, S < 64 → Q (some (.int (aRu h B o (aNp h - i) i S))) w → px_W E mX0_stepsBetween (d + 2) 0 0 8 [.ref 46, .ref r0, .int (nI B), .null, .int (nI o), .int (nI S), .int (nI i), .null, .null] [] w Q := by
    refine za_up (aNp h) _ (fun i hi ih => ?_)
    intro S hS kk
    have eb := za_tb1 (n := S) (k := o) (by omega) (by omega)
    refine bX0_stepsBetween_8 hw hr0 (fun q => ?_) (fun q z => ?_) (fun q z => ?_) <;> rw [hH.1.1] at q
    · have : i = aNp h := by have := za_le (by omega) (by omega) q; omega
      subst this
      rw [Nat.sub_self] at kk
      exact kk
    · have hlt : i < aNp h := za_nle (by omega) (by omega) q
      rw [show aNp h - i = (aNp h - (i + 1)) + 1 by omega] at kk
      unfold aRu at kk
      rw [if_neg (fun y => z (eb.mpr y))] at kk
      have key2 : ∀ j, j ≤ aNp h → px_W E mX0_stepsBetween (d + 2) 0 0 38 [.ref 46, .ref r0, .int (nI B), .null, .int (nI o), .int (nI S), .int (nI i), .int (nI (aGo h B S j)), .int (nI j)] [] w Q := by
        refine za_up (aNp h) _ (fun j hj ih2 => ?_)
        have ebj := za_tb1 (n := S) (k := j) (by omega) (by omega)
        refine bX0_stepsBetween_38 hw hr0 (fun q => ?_) (fun q y => ?_) (fun q y => ?_) <;> rw [hH.1.1] at q
        · have : j = aNp h := by have := za_le (by omega) (by omega) q; omega
          subst this
          rw [nI_1]
          exact ih hlt _ (aGo_lt hh B hS _) kk
        · have jl : j < aNp h := za_nle (by omega) (by omega) q
          have ih2 := ih2 jl
          rw [aGo_s, if_neg (fun x => y (ebj.mpr x))] at ih2
          refine bX0_stepsBetween_71 hw hr0 ?_
          rw [nI_1]
          exact ih2
        · have jl : j < aNp h := za_nle (by omega) (by omega) q
          have ih2 := ih2 jl
          rw [aGo_s, if_pos (ebj.mp y)] at ih2
          refine tX0_companyOf hw hr0 hH hh hB (by omega) ?_
          refine bX0_stepsBetween_68 hw hr0 (bX0_stepsBetween_71 hw hr0 ?_)
          rw [nI_1, za_or]
          exact ih2
      exact key2 0 (Nat.zero_le _)
    · have hlt : i < aNp h := za_nle (by omega) (by omega) q
      rw [show aNp h - i = (aNp h - (i + 1)) + 1 by omega] at kk
      unfold aRu at kk
      rw [if_pos (eb.mp z)] at kk
      exact kk
  exact key 0 (Nat.zero_le _) _ (p6 hp np) k
theorem sh60 : (cs t).2.1 60 = (100, 6) := rfl
abbrev aFre (h : aH) (B p c : Nat) (g : Nat → Nat) : Prop := ∀ a, a < p → g a = c → (aFr h B p).testBit a = false
theorem tX0_isFree {B p c : Nat} {g : Nat → Nat} (hw : w.1 = cs t) (hh : aWH h) (hp : p < 6) (hc : c < 10) (hg : ∀ q, q < p → pw_I w 60 q = nI (g q) ∧ g q < 10) (hC : pw_I w 47 p = nI (aFr h B p)) (k1 : aFre h B p c g → Q (some (.int 1)) w) (k0 : ¬ aFre h B p c g → Q (some (.int 0)) w) : px_Call E (d + 1) 0 0 mX0_isFree [.ref 46, .int (nI p), .int (nI c), .ref 60] w Q := by
  have hn : (6 : Nat) < 2 ^ 31 := by decide
  refine eX0_isFree hw sh60 hn ?_
  have key : ∀ i, i ≤ p → (∀ a, a < i → g a = c → (aFr h B p).testBit a = false) → px_W E mX0_isFree (d + 1) 0 0 3 [.ref 46, .int (nI p), .int (nI c), .ref 60, .int (nI i)] [] w Q := by
    refine za_up p _ (fun i hi ih => ?_)
    intro no
    have fl := aFr_lt hh B p
    have eb := za_tb1 (n := aFr h B p) (k := i) (by omega) (by omega)
    refine bX0_isFree_3 hw sh60 hn (fun q => ?_) (fun q => ?_)
    · have : i = p := by have := za_le (by omega) (by omega) q; omega
      subst this
      exact k1 no
    · have hlt : i < p := za_nle (by omega) (by omega) q
      obtain ⟨g1, g2⟩ := hg i hlt
      have nxt : ¬ (g i = c ∧ (aFr h B p).testBit i = true) → px_W E mX0_isFree (d + 1) 0 0 34 [.ref 46, .int (nI p), .int (nI c), .ref 60, .int (nI i)] [] w Q := by
        intro z
        refine bX0_isFree_34 hw sh60 hn ?_
        rw [nI_1]
        refine ih hlt (fun a ha e => ?_)
        by_cases ea : a = i
        · subst ea
          cases hb : (aFr h B p).testBit a with
          | false => rfl
          | true => exact absurd ⟨e, hb⟩ z
        · exact no a (by omega) e
      refine bX0_isFree_9 hw sh60 hn i rfl (by omega) (fun z => ?_) (fun z => ?_) <;> rw [g1] at z
      · exact nxt (fun y => za_ne (by omega) (by omega) z y.1)
      · have z := za_eq (by omega) (by omega) z
        refine bX0_isFree_17 hw sh60 hn p rfl hp (fun y => ?_) (fun y => ?_) <;> rw [hC, eb] at y
        · exact nxt (fun x => y x.2)
        · exact k0 (fun x => by have := x i hlt z; rw [y] at this; cases this)
  exact key 0 (Nat.zero_le _) (fun a ha => absurd ha (Nat.not_lt_zero _))
/-- a way to part the first p, a number v, gone on with -/
theorem tX0_isParted {B m : Nat} {w0 : pw_W} (hh : aWH h) (hw0 : w0.1 = cs t) (hm : 1 ≤ m) (hm6 : m ≤ 6) (hC : ∀ q, q < aNp h → pw_I w0 47 q = nI (aFr h B q)) : ∀ r p v, p + r = aNp h → v < m ^ p → ∀ (w : pw_W) (Q : Option Value → pw_W → Prop), ag [60] w0 w → (∀ q, q < p → pw_I w 60 q = nI (v / m ^ (p - 1 - q) % m)) →
    (∀ a b, a < b → b < p → (aFr h B b).testBit a = true → v / m ^ (p - 1 - a) % m ≠ v / m ^ (p - 1 - b) % m) →
    (∀ w' x, ag [60] w0 w' → x / m ^ r = v → aPro h B m x → (∀ y, y / m ^ r = v → y < x → ¬ aPro h B m y) → (∀ q, q < aNp h → pw_I w' 60 q = nI (dgt m (aNp h) x q)) → Q (some (.int 1)) w') →
    (∀ w', ag [60] w0 w' → (∀ y, y / m ^ r = v → ¬ aPro h B m y) → (∀ q, q < p → pw_I w' 60 q = nI (v / m ^ (p - 1 - q) % m)) → Q (some (.int 0)) w') →
    ∀ D, r + 2 ≤ D → px_Call E D 0 0 mX0_isParted [.ref 46, .int (nI p), .int (nI (aNp h)), .int (nI m), .ref 60] w Q := by
  have np := hh.1
  have hn : (6 : Nat) < 2 ^ 31 := by decide
  have ml : ∀ x : Nat, x % m < 10 := fun x => by have := Nat.mod_lt x (show 0 < m by omega); omega
  intro r
  induction r with
  | zero =>
    intro p v hpr hv w Q hag hg hpre k1 k0 D hD
    obtain ⟨D, rfl⟩ : ∃ D', D = D' + 1 := ⟨D - 1, by omega⟩
    have hw := hag.1.trans hw0
    have hp : p = aNp h := by omega
    refine eX0_isParted hw sh60 hn (fun _ => ?_) (fun q => absurd (by rw [hp]; exact (nI_leI (by omega) (by omega)).mpr (Nat.le_refl _)) q) (fun q => absurd (by rw [hp]; exact (nI_leI (by omega) (by omega)).mpr (Nat.le_refl _)) q)
    have hv0 : v / m ^ 0 = v := by rw [Nat.pow_zero, Nat.div_one]
    have dp : ∀ q, q < aNp h → dgt m (aNp h) v q = v / m ^ (p - 1 - q) % m := fun q hq => by
      have := dg_pre (m := m) (r := 0) (p := p) (x := v) hv0 (q := q) (by omega)
      rw [hpr] at this
      exact this
    refine bX0_isParted_12 hw sh60 hn (k1 w v hag hv0 ?_ (fun y hy hlt => ?_) (fun q hq => ?_))
    · intro i hi hb e
      obtain ⟨g1, g2, g3, -⟩ := hh.2.2.2.2.2.2.2.2.1 i hi
      rw [dp _ g1, dp _ g2] at e
      rcases Nat.lt_or_gt_of_ne g3 with z | z
      · exact hpre _ _ z (by omega) ((aFrK_bit B _ _ _).mpr ⟨i, hi, hb, Or.inr ⟨rfl, rfl⟩⟩) e
      · exact hpre _ _ z (by omega) ((aFrK_bit B _ _ _).mpr ⟨i, hi, hb, Or.inl ⟨rfl, rfl⟩⟩) e.symm
    · rw [Nat.pow_zero, Nat.div_one] at hy; omega
    · rw [dp q hq]; exact hg q (by omega)
  | succ r ih =>
    intro p v hpr hv w Q hag hg hpre k1 k0 D hD
    obtain ⟨D, rfl⟩ : ∃ D', D = D' + 2 := ⟨D - 2, by omega⟩
    have hw := hag.1.trans hw0
    have hp : p < aNp h := by omega
    have no1 : ¬ nI (aNp h) ≤ nI p := fun z => by have := za_le (by omega) (by omega) z; omega
    refine eX0_isParted hw sh60 hn (fun q => absurd q no1) (fun _ _ => ?_) (fun _ q => absurd ((nI_ltI (by omega) (by omega)).mpr (show p < 6 by omega)) q)
    have key : ∀ c, c ≤ m → ∀ w1, ag [60] w0 w1 → (∀ q, q < p → pw_I w1 60 q = nI (v / m ^ (p - 1 - q) % m)) → (∀ c', c' < c → ∀ y, y / m ^ r = v * m + c' → ¬ aPro h B m y) → px_W E mX0_isParted (D + 2) 0 0 17 [.ref 46, .int (nI p), .int (nI (aNp h)), .int (nI m), .ref 60, .int (nI c)] [] w1 Q := by
      refine za_up m _ (fun c hc ihc => ?_)
      intro w1 a1 g1 no
      have hw1 := a1.1.trans hw0
      refine bX0_isParted_17 hw1 sh60 hn (fun q => ?_) (fun q => ?_)
      · have : c = m := by have := za_le (by omega) (by omega) q; omega
        subst this
        refine k0 w1 a1 (fun y hy => ?_) g1
        exact no _ (Nat.mod_lt _ (by omega)) y (dg_down hy)
      · have hlt : c < m := za_nle (by omega) (by omega) q
        have nxt : ∀ w2, ag [60] w0 w2 → (∀ q, q < p → pw_I w2 60 q = nI (v / m ^ (p - 1 - q) % m)) → (∀ y, y / m ^ r = v * m + c → ¬ aPro h B m y) → px_W E mX0_isParted (D + 2) 0 0 57 [.ref 46, .int (nI p), .int (nI (aNp h)), .int (nI m), .ref 60, .int (nI c)] [] w2 Q := by
          intro w2 a2 g2 no2
          refine bX0_isParted_57 (a2.1.trans hw0) sh60 hn ?_
          rw [nI_1]
          refine ihc hlt w2 a2 g2 (fun c' hc' y hy => ?_)
          by_cases e : c' = c
          · subst e; exact no2 y hy
          · exact no c' (by omega) y hy
        refine tX0_isFree (B := B) (g := fun q => v / m ^ (p - 1 - q) % m) hw1 hh (by omega) (by omega) (fun q hq => ⟨g1 q hq, ml _⟩) ((a1.I (by decide) p).trans (hC p hp)) (fun fr => ?_) (fun fr => ?_)
        · refine bX0_isParted_32 hw1 sh60 hn (fun z => absurd z (by decide)) (fun _ => ?_)
          refine bX0_isParted_35 hw1 sh60 hn p rfl (by omega) ?_
          rw [nI_1]
          have hvc : v * m + c < m ^ (p + 1) := by
            rw [Nat.pow_succ]
            calc v * m + c < v * m + m := by omega
              _ = (v + 1) * m := by rw [Nat.succ_mul]
              _ ≤ m ^ p * m := Nat.mul_le_mul_right m hv
          refine ih (p + 1) (v * m + c) (by omega) hvc _ _ (a1.tr (ag.sI List.mem_cons_self)) (fun q hq => ?_) (fun a b hab hb hbit => ?_) (fun w' x b1 b2 b3 b4 b5 => ?_) (fun w' b1 b2 b3 => ?_) _ (by omega)
          · by_cases e : q = p
            · subst e; rw [pw_same, dg_last hlt]
            · rw [pw_oth (fun _ z => e z), g1 q (by omega), dg_next hlt (by omega)]
          · by_cases e : b = p
            · subst e
              rw [dg_last hlt, dg_next hlt hab]
              intro z
              have := fr a hab z
              rw [hbit] at this
              cases this
            · rw [dg_next hlt (by omega), dg_next hlt (by omega)]
              exact hpre a b hab (by omega) hbit
          · refine bX0_isParted_52 (b1.1.trans hw0) sh60 hn (fun z => absurd z (by decide)) (fun _ => ?_)
            refine k1 w' x b1 (dg_up hlt b2) b3 (fun y hy hyx => ?_) b5
            have e1 := dg_down hy
            have e2 : y / m ^ r ≤ x / m ^ r := Nat.div_le_div_right (by omega)
            rw [b2] at e2
            by_cases e3 : y / m ^ r % m = c
            · rw [e3] at e1
              exact b4 y e1 hyx
            · exact no _ (by omega) y e1
          · refine bX0_isParted_52 (b1.1.trans hw0) sh60 hn (fun _ => ?_) (fun z => absurd rfl z)
            refine nxt w' b1 (fun q hq => ?_) b2
            rw [b3 q (by omega), dg_next hlt hq]
        · refine bX0_isParted_32 hw1 sh60 hn (fun _ => ?_) (fun z => absurd rfl z)
          refine nxt w1 a1 g1 (fun y hy pr => fr (fun a ha e => ?_))
          cases hb : (aFr h B p).testBit a with
          | false => rfl
          | true =>
            obtain ⟨i, hi, h1, h2⟩ := (aFrK_bit B p a (aNm h)).mp hb
            have q1 := dg_pre (m := m) (r := r) (p := p + 1) hy (q := a) (by omega)
            have q2 := dg_pre (m := m) (r := r) (p := p + 1) hy (q := p) (by omega)
            rw [dg_next hlt ha, show p + 1 + r = aNp h by omega] at q1
            rw [dg_last hlt, show p + 1 + r = aNp h by omega] at q2
            have e : v / m ^ (p - 1 - a) % m = c := e
            have := pr i hi h1
            rcases h2 with ⟨rfl, rfl⟩ | ⟨rfl, rfl⟩
            · exact absurd (by rw [q1, q2, e]) this
            · exact absurd (by rw [q1, q2, e]) this
    exact key 0 (by omega) w hag hg (fun c' hc' => absurd hc' (Nat.not_lt_zero _))
theorem tX0_fewestGroups {B : Nat} (hw : w.1 = cs t) (hr0 : is_Hamlet r0) (hH : RXH h w r0) (hh : aWH h) (hB : B < 512) (k : ∀ w' m x, ag [47, 60] w w' → aEvn h B m x → (∀ q, q < aNp h → pw_I w' 60 q = nI (dgt m (aNp h) x q)) → Q (some (.int (nI m))) w') :
    px_Call E (d + 12) 0 0 mX0_fewestGroups [.ref 46, .ref r0, .int (nI B), .ref 60] w Q := by
  have np := hh.1
  have hn : (6 : Nat) < 2 ^ 31 := by decide
  have n0 : ∀ k, k ≤ 11 → r0 + k ∉ [47, 60] := by rcases hr0 with rfl | rfl <;> simp <;> omega
  refine eX0_fewestGroups hw hr0 ?_
  have key : ∀ i, i ≤ aNp h → ∀ w1, ag [47, 60] w w1 → (∀ q, q < i → pw_I w1 47 q = nI (aFr h B q)) → px_W E mX0_fewestGroups (d + 12) 0 0 3 [.ref 46, .ref r0, .int (nI B), .ref 60, .int (nI i)] [] w1 Q := by
    refine za_up (aNp h) _ (fun i hi ih => ?_)
    intro w1 a1 C1
    have hw1 := a1.1.trans hw
    have H1 := hH.ag a1 n0
    refine bX0_fewestGroups_3 hw1 hr0 (fun q => ?_) (fun q => ?_) <;> rw [H1.1.1] at q
    · have : i = aNp h := by have := za_le (by omega) (by omega) q; omega
      subst this
      by_cases hz : aNp h = 0
      · refine bX0_fewestGroups_36 hw1 hr0 (fun _ => ?_) (fun q => absurd (by rw [H1.1.1, hz]; decide) q)
        rw [H1.1.1, hz]
        refine eX0_isParted hw1 sh60 hn (fun _ => ?_) (fun q => absurd (by decide) q) (fun q => absurd (by decide) q)
        refine bX0_isParted_12 hw1 sh60 hn (bX0_fewestGroups_83 (r3 := 60) hw1 hr0 ?_)
        rw [H1.1.1, hz]
        exact k w1 0 0 a1 (Or.inl ⟨hz, rfl⟩) (fun q hq => absurd hq (by omega))
      · have key2 : ∀ m, m ≤ aNp h → 1 ≤ m → ∀ w2, ag [60] w1 w2 → (∀ k, 1 ≤ k → k < m → ∀ y, y < k ^ aNp h → ¬ aPro h B k y) → px_W E mX0_fewestGroups (d + 12) 0 0 36 [.ref 46, .ref r0, .null, .ref 60, .int (nI m)] [] w2 Q := by
          refine za_up (aNp h) _ (fun m hm ih2 => ?_)
          intro h1 w2 a2 no
          have hw2 := a2.1.trans hw1
          have H2 := H1.ag a2 (fun k hk z => n0 k hk (by simp at z ⊢; omega))
          have done : ∀ w' x, ag [60] w1 w' → x / m ^ aNp h = 0 → aPro h B m x → (∀ y, y / m ^ aNp h = 0 → y < x → ¬ aPro h B m y) → aEvn h B m x := by
            intro w' x b1 b2 b3 b4
            have mp : 0 < m ^ aNp h := Nat.pow_pos (by omega)
            have hx : x < m ^ aNp h := by
              rcases Nat.lt_or_ge x (m ^ aNp h) with z | z
              · exact z
              · have := Nat.div_pos z mp; omega
            exact Or.inr ⟨by omega, h1, hm, hx, b3, fun y hy => b4 y (Nat.div_eq_of_lt (by omega)) hy, no⟩
          refine bX0_fewestGroups_36 hw2 hr0 (fun q => ?_) (fun q => ?_) <;> rw [H2.1.1] at q ⊢
          · have em : m = aNp h := by have := za_le (by omega) (by omega) q; omega
            have e2 : nI (aNp h) = nI m := by rw [em]
            rw [show px_Call E (d + 11) 0 0 mX0_isParted [.ref 46, .int 0, .int (nI (aNp h)), .int (nI (aNp h)), .ref 60] w2 = px_Call E (d + 11) 0 0 mX0_isParted [.ref 46, .int (nI 0), .int (nI (aNp h)), .int (nI m), .ref 60] w2 by rw [← em]; rfl]
            refine tX0_isParted (B := B) (m := m) (w0 := w1) hh hw1 h1 (by omega) C1 (aNp h) 0 0 (by omega) (by rw [Nat.pow_zero]; decide) w2 _ a2 (fun q hq => absurd hq (Nat.not_lt_zero _)) (fun a b _ hb => absurd hb (Nat.not_lt_zero _)) (fun w' x b1 b2 b3 b4 b5 => ?_) (fun w' b1 b2 b3 => ?_) _ (by omega)
            · have hw' := b1.1.trans hw1
              refine bX0_fewestGroups_83 (r3 := 60) hw' hr0 ?_
              rw [(H1.ag b1 (fun k hk z => n0 k hk (by simp at z ⊢; omega))).1.1, e2]
              exact k w' m x (a1.tr (b1.mono (by simp))) (done w' x b1 b2 b3 b4) b5
            · obtain ⟨x, x1, x2⟩ := aPro_full hh B (by omega)
              rw [← em] at x1 x2
              exact absurd x2 (b2 x (Nat.div_eq_of_lt (by rw [em] at x1 ⊢; exact x1)))
          · have hlt : m < aNp h := za_nle (by omega) (by omega) q
            refine tX0_isParted (B := B) (m := m) (w0 := w1) hh hw1 h1 (by omega) C1 (aNp h) 0 0 (by omega) (by rw [Nat.pow_zero]; decide) w2 _ a2 (fun q hq => absurd hq (Nat.not_lt_zero _)) (fun a b _ hb => absurd hb (Nat.not_lt_zero _)) (fun w' x b1 b2 b3 b4 b5 => ?_) (fun w' b1 b2 b3 => ?_) _ (by omega)
            · have hw' := b1.1.trans hw1
              refine bX0_fewestGroups_57 hw' hr0 (fun z => absurd z (by decide)) (fun _ => ?_)
              exact k w' m x (a1.tr (b1.mono (by simp))) (done w' x b1 b2 b3 b4) b5
            · have hw' := b1.1.trans hw1
              refine bX0_fewestGroups_57 hw' hr0 (fun _ => ?_) (fun z => absurd rfl z)
              rw [nI_1]
              refine ih2 hlt (by omega) w' b1 (fun k hk1 hk2 y hy => ?_)
              by_cases e : k = m
              · subst e
                exact b2 y (Nat.div_eq_of_lt hy)
              · exact no k hk1 (by omega) y hy
        refine bX0_fewestGroups_36 hw1 hr0 (fun q => absurd q (by rw [H1.1.1]; exact fun z => by have := za_le (b := 0) (by omega) (by omega) z; omega)) (fun _ => ?_)
        rw [H1.1.1]
        have no1 : ¬ nI (aNp h) ≤ 0 := fun z => by have := za_le (b := 0) (by omega) (by omega) z; omega
        refine eX0_isParted hw1 sh60 hn (fun z => absurd z no1) (fun _ _ => ?_) (fun _ z => absurd (by decide) z)
        refine bX0_isParted_17 hw1 sh60 hn (fun _ => ?_) (fun z => absurd (by decide) z)
        refine bX0_fewestGroups_57 hw1 hr0 (fun _ => ?_) (fun z => absurd rfl z)
        exact key2 1 (by omega) (Nat.le_refl _) w1 ag.rf (fun k h1 h2 => by omega)
    · have hlt : i < aNp h := za_nle (by omega) (by omega) q
      refine tX0_companyOf hw1 hr0 H1 hh hB (by omega) ?_
      refine bX0_fewestGroups_26 hw1 hr0 i rfl (by omega) ?_
      rw [nI_1]
      refine ih hlt _ (a1.tr (ag.sI (by decide))) (fun q hq => ?_)
      by_cases e : q = i
      · subst e; exact pw_same
      · rw [pw_oth (fun _ z => e z)]; exact C1 q (by omega)
  exact key 0 (Nat.zero_le _) w ag.rf (fun q hq => absurd hq (Nat.not_lt_zero _))
end XO
