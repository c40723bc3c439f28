/-! tokens of a text -/
def rn (f : Nat → Bool) : Nat → Nat → Nat
  | 0, p => p
  | m + 1, p => if f p = true then rn f m (p + 1) else p
theorem rn_le {f : Nat → Bool} : ∀ m p, p ≤ rn f m p ∧ rn f m p ≤ p + m := by
  intro m
  induction m with
  | zero => intro p; exact ⟨Nat.le_refl _, Nat.le_refl _⟩
  | succ m ih =>
    intro p
    rw [rn]
    by_cases h : f p = true
    · rw [if_pos h]; have := ih (p + 1); omega
    · rw [if_neg h]; omega
theorem rn_in {f : Nat → Bool} : ∀ m p i, p ≤ i → i < rn f m p → f i = true := by
  intro m
  induction m with
  | zero => intro p i h1 h2; rw [rn] at h2; omega
  | succ m ih =>
    intro p i h1 h2
    rw [rn] at h2
    by_cases h : f p = true
    · rw [if_pos h] at h2
      by_cases e : i = p
      · rw [e]; exact h
      · exact ih (p + 1) i (by omega) h2
    · rw [if_neg h] at h2; omega
theorem rn_end {f : Nat → Bool} {n : Nat} (hf : ∀ i, n ≤ i → f i = false) : ∀ m p, n ≤ p + m → f (rn f m p) = false := by
  intro m
  induction m with
  | zero => intro p h; exact hf _ h
  | succ m ih =>
    intro p h
    rw [rn]
    by_cases e : f p = true
    · rw [if_pos e]; exact ih (p + 1) (by omega)
    · rw [if_neg e]; exact Bool.eq_false_iff.mpr e
theorem rn_uniq {f : Nat → Bool} {p q r : Nat} (hq : p ≤ q) (hr : p ≤ r) (iq : ∀ i, p ≤ i → i < q → f i = true) (ir : ∀ i, p ≤ i → i < r → f i = true) (eq : f q = false) (er : f r = false) : q = r := by
  rcases Nat.lt_trichotomy q r with h | h | h
  · rw [ir q hq h] at eq; cases eq
  · exact h
  · rw [iq r hr h] at er; cases er
def cB (T : Nat → Nat) (n i : Nat) : Bool := decide (i < n ∧ (T i = 32 ∨ T i = 10))
def cL (T : Nat → Nat) (n i : Nat) : Bool := decide (i < n ∧ 97 ≤ T i ∧ T i ≤ 122)
def cD (T : Nat → Nat) (n i : Nat) : Bool := decide (i < n ∧ 48 ≤ T i ∧ T i ≤ 57)
def sgS : List Nat := [59, 40, 41, 60, 62, 61, 43, 45, 42, 47, 37]
theorem cB_out {T : Nat → Nat} {n : Nat} : ∀ i, n ≤ i → cB T n i = false := fun i h => decide_eq_false (by omega)
theorem cL_out {T : Nat → Nat} {n : Nat} : ∀ i, n ≤ i → cL T n i = false := fun i h => decide_eq_false (by omega)
theorem cD_out {T : Nat → Nat} {n : Nat} : ∀ i, n ≤ i → cD T n i = false := fun i h => decide_eq_false (by omega)
/-- the place of the token at p -/
def tQ (T : Nat → Nat) (n p : Nat) : Nat := rn (cB T n) (n - p) p
/-- the end of the letters, of the digits -/
def tL (T : Nat → Nat) (n p : Nat) : Nat := rn (cL T n) (n - tQ T n p) (tQ T n p)
def tD (T : Nat → Nat) (n p : Nat) : Nat := rn (cD T n) (n - tQ T n p) (tQ T n p)
def lw (T : Nat → Nat) (q k : Nat) : List Nat := (List.range k).map (fun i => T (q + i))
def tW (T : Nat → Nat) (n p : Nat) : List Nat := lw T (tQ T n p) (tL T n p - tQ T n p)
def nV (T : Nat → Nat) (q : Nat) : Nat → Nat
  | 0 => 0
  | k + 1 => nV T q k * 10 + (T (q + k) - 48)
def tE (T : Nat → Nat) (n p : Nat) : Nat := if tQ T n p < tL T n p then tL T n p else if tQ T n p < tD T n p then tD T n p else if n ≤ tQ T n p then tQ T n p else tQ T n p + 1
/-- 0 end, 1 none, 2 number, 3 name, 4 own word, 5 sign -/
def tC (T : Nat → Nat) (n p : Nat) : Nat := if tQ T n p < tL T n p then (if 8 < tL T n p - tQ T n p then 1 else if tW T n p ∈ kwS then 4 else 3) else if tQ T n p < tD T n p then (if 4 < tD T n p - tQ T n p ∨ cL T n (tD T n p) = true then 1 else 2) else if n ≤ tQ T n p then 0 else if T (tQ T n p) ∈ sgS then 5 else 1
def tV (T : Nat → Nat) (n p : Nat) : Nat := if tQ T n p < tL T n p then kwS.idxOf (tW T n p) else if tQ T n p < tD T n p then nV T (tQ T n p) (tD T n p - tQ T n p) else T (tQ T n p)
section TOK
variable {T : Nat → Nat} {n p : Nat}
theorem tQ_le (h : p ≤ n) : p ≤ tQ T n p ∧ tQ T n p ≤ n := by
  have := rn_le (f := cB T n) (n - p) p
  unfold tQ
  omega
theorem tL_le (h : p ≤ n) : tQ T n p ≤ tL T n p ∧ tL T n p ≤ n := by
  have := rn_le (f := cL T n) (n - tQ T n p) (tQ T n p)
  have := tQ_le (T := T) h
  unfold tL
  omega
theorem tD_le (h : p ≤ n) : tQ T n p ≤ tD T n p ∧ tD T n p ≤ n := by
  have := rn_le (f := cD T n) (n - tQ T n p) (tQ T n p)
  have := tQ_le (T := T) h
  unfold tD
  omega
theorem tE_le (h : p ≤ n) : tE T n p ≤ n := by
  have := tQ_le (T := T) h
  have := tL_le (T := T) h
  have := tD_le (T := T) h
  unfold tE
  split
  · omega
  · split
    · omega
    · split <;> omega
theorem tE_lt (h : p ≤ n) (c : tC T n p ≠ 0) : p < tE T n p := by
  have a := tQ_le (T := T) h
  unfold tC at c
  unfold tE
  split
  · omega
  · rename_i h1
    rw [if_neg h1] at c
    split
    · omega
    · rename_i h2
      rw [if_neg h2] at c
      split
      · rename_i h3; rw [if_pos h3] at c; exact absurd rfl c
      · omega
theorem tQ_end (h : p ≤ n) : cB T n (tQ T n p) = false := rn_end cB_out _ _ (by omega)
theorem tL_end (h : p ≤ n) : cL T n (tL T n p) = false := rn_end cL_out _ _ (by have := tQ_le (T := T) h; omega)
theorem tD_end (h : p ≤ n) : cD T n (tD T n p) = false := rn_end cD_out _ _ (by have := tQ_le (T := T) h; omega)
theorem tQ_of {q : Nat} (h : p ≤ n) (hq : p ≤ q) (iq : ∀ i, p ≤ i → i < q → cB T n i = true) (eq : cB T n q = false) : tQ T n p = q := rn_uniq (tQ_le h).1 hq (rn_in _ _) iq (tQ_end h) eq
theorem tL_of {q : Nat} (h : p ≤ n) (hq : tQ T n p ≤ q) (iq : ∀ i, tQ T n p ≤ i → i < q → cL T n i = true) (eq : cL T n q = false) : tL T n p = q := rn_uniq (tL_le h).1 hq (rn_in _ _) iq (tL_end h) eq
theorem tD_of {q : Nat} (h : p ≤ n) (hq : tQ T n p ≤ q) (iq : ∀ i, tQ T n p ≤ i → i < q → cD T n i = true) (eq : cD T n q = false) : tD T n p = q := rn_uniq (tD_le h).1 hq (rn_in _ _) iq (tD_end h) eq
end TOK
theorem lw_len {T : Nat → Nat} {q k : Nat} : (lw T q k).length = k := by unfold lw; rw [List.length_map, List.length_range]
theorem lw_succ {T : Nat → Nat} {q k : Nat} : lw T q (k + 1) = lw T q k ++ [T (q + k)] := by
  unfold lw
  rw [List.range_succ, List.map_append]
  rfl
theorem lw_mem {T : Nat → Nat} {q k x : Nat} (h : x ∈ lw T q k) : ∃ i, i < k ∧ T (q + i) = x := by
  unfold lw at h
  obtain ⟨i, h1, h2⟩ := List.mem_map.mp h
  exact ⟨i, List.mem_range.mp h1, h2⟩
theorem e27_snoc {l : List Nat} {c : Nat} : e27 (l ++ [c]) = e27 l * 27 + (c - 96) := by unfold e27; rw [List.foldl_append]; rfl
def e256 (l : List Nat) : Nat := l.foldl (fun a c => a * 256 + c) 0
theorem e256_snoc {l : List Nat} {c : Nat} : e256 (l ++ [c]) = e256 l * 256 + c := by unfold e256; rw [List.foldl_append]; rfl
/-- small letters only -/
def lwr (l : List Nat) : Prop := ∀ c ∈ l, 97 ≤ c ∧ c ≤ 122
theorem snoc_cases {α : Type} (l : List α) : l = [] ∨ ∃ a c, l = a ++ [c] := by
  rcases List.eq_nil_or_concat l with h | ⟨a, c, h⟩
  · exact Or.inl h
  · exact Or.inr ⟨a, c, by rw [h, List.concat_eq_append]⟩
theorem e27_inj : ∀ (m : Nat) (l k : List Nat), l.length ≤ m → lwr l → lwr k → e27 l = e27 k → l = k := by
  intro m
  induction m with
  | zero =>
    intro l k hm hl hk e
    have : l = [] := List.length_eq_zero_iff.mp (by omega)
    subst this
    rcases snoc_cases k with h | ⟨a, c, h⟩
    · rw [h]
    · subst h
      rw [e27_snoc] at e
      have := hk c (by simp)
      have : e27 ([] : List Nat) = 0 := rfl
      omega
  | succ m ih =>
    intro l k hm hl hk e
    rcases snoc_cases l with h | ⟨a, c, h⟩
    · subst h
      rcases snoc_cases k with h | ⟨a, c, h⟩
      · rw [h]
      · subst h
        rw [e27_snoc] at e
        have := hk c (by simp)
        have : e27 ([] : List Nat) = 0 := rfl
        omega
    · subst h
      have q1 := hl c (by simp)
      rcases snoc_cases k with h | ⟨b, x, h⟩
      · subst h
        rw [e27_snoc] at e
        have : e27 ([] : List Nat) = 0 := rfl
        omega
      · subst h
        have q2 := hk x (by simp)
        rw [e27_snoc, e27_snoc] at e
        have e1 : c = x := by omega
        have e2 : e27 a = e27 b := by omega
        rw [List.length_append] at hm
        rw [e1, ih a b (by have : [c].length = 1 := rfl; omega) (fun z h => hl z (by simp [h])) (fun z h => hk z (by simp [h])) e2]
theorem e256_inj : ∀ (m : Nat) (l k : List Nat), l.length ≤ m → lwr l → lwr k → e256 l = e256 k → l = k := by
  intro m
  induction m with
  | zero =>
    intro l k hm hl hk e
    have : l = [] := List.length_eq_zero_iff.mp (by omega)
    subst this
    rcases snoc_cases k with h | ⟨a, c, h⟩
    · rw [h]
    · subst h
      rw [e256_snoc] at e
      have := hk c (by simp)
      have : e256 ([] : List Nat) = 0 := rfl
      omega
  | succ m ih =>
    intro l k hm hl hk e
    rcases snoc_cases l with h | ⟨a, c, h⟩
    · subst h
      rcases snoc_cases k with h | ⟨a, c, h⟩
      · rw [h]
      · subst h
        rw [e256_snoc] at e
        have := hk c (by simp)
        have : e256 ([] : List Nat) = 0 := rfl
        omega
    · subst h
      have q1 := hl c (by simp)
      rcases snoc_cases k with h | ⟨b, x, h⟩
      · subst h
        rw [e256_snoc] at e
        have : e256 ([] : List Nat) = 0 := rfl
        omega
      · subst h
        have q2 := hk x (by simp)
        rw [e256_snoc, e256_snoc] at e
        have e1 : c = x := by omega
        have e2 : e256 a = e256 b := by omega
        rw [List.length_append] at hm
        rw [e1, ih a b (by have : [c].length = 1 := rfl; omega) (fun z h => hl z (by simp [h])) (fun z h => hk z (by simp [h])) e2]
theorem e27_lt : ∀ (m : Nat) (l : List Nat), l.length = m → lwr l → e27 l < 27 ^ m := by
  intro m
  induction m with
  | zero => intro l h _; rw [List.length_eq_zero_iff.mp h]; decide
  | succ m ih =>
    intro l h hl
    rcases snoc_cases l with e | ⟨a, c, e⟩
    · rw [e] at h; cases h
    · subst e
      rw [List.length_append] at h
      have := ih a (by have : [c].length = 1 := rfl; omega) (fun z h => hl z (by simp [h]))
      have := hl c (by simp)
      rw [e27_snoc, Nat.pow_succ]
      omega
theorem e256_lt : ∀ (m : Nat) (l : List Nat), l.length = m → lwr l → 2 * e256 l < 256 ^ m ∨ m = 0 := by
  intro m
  induction m with
  | zero => intro l h _; exact Or.inr rfl
  | succ m ih =>
    intro l h hl
    left
    rcases snoc_cases l with e | ⟨a, c, e⟩
    · rw [e] at h; cases h
    · subst e
      rw [List.length_append] at h
      have i := ih a (by have : [c].length = 1 := rfl; omega) (fun z h => hl z (by simp [h]))
      have := hl c (by simp)
      rw [e256_snoc, Nat.pow_succ]
      rcases i with i | i
      · omega
      · have : a = [] := List.length_eq_zero_iff.mp (by have : [c].length = 1 := rfl; omega)
        subst this
        subst i
        have : e256 ([] : List Nat) = 0 := rfl
        omega
theorem i64_inj {a b : Nat} (ha : a < 2 ^ 63) (hb : b < 2 ^ 63) (e : Int64.ofNat a = Int64.ofNat b) : a = b := by
  have h := congrArg Int64.toInt e
  rw [Int64.toInt_ofNat_of_lt ha, Int64.toInt_ofNat_of_lt hb] at h
  omega
theorem e27_b {l : List Nat} (hl : lwr l) (h : l.length ≤ 8) : e27 l < 2 ^ 63 := by
  have a := e27_lt _ l rfl hl
  have b : (27 : Nat) ^ l.length ≤ 27 ^ 8 := Nat.pow_le_pow_right (by decide) h
  have c : (27 : Nat) ^ 8 < 2 ^ 63 := by decide
  omega
theorem e256_b {l : List Nat} (hl : lwr l) (h : l.length ≤ 8) : e256 l < 2 ^ 63 := by
  have b : (256 : Nat) ^ l.length ≤ 256 ^ 8 := Nat.pow_le_pow_right (by decide) h
  have c : (256 : Nat) ^ 8 = 2 * 2 ^ 63 := by decide
  rcases e256_lt _ l rfl hl with a | a
  · omega
  · rw [List.length_eq_zero_iff.mp a]; decide
theorem n27 {l k : List Nat} (hl : lwr l) (hk : lwr k) (h1 : l.length ≤ 8) (h2 : k.length ≤ 8) : Int64.ofNat (e27 l) = Int64.ofNat (e27 k) ↔ l = k :=
  ⟨fun e => e27_inj _ l k (Nat.le_refl _) hl hk (i64_inj (e27_b hl h1) (e27_b hk h2) e), fun e => by rw [e]⟩
theorem n256 {l k : List Nat} (hl : lwr l) (hk : lwr k) (h1 : l.length ≤ 8) (h2 : k.length ≤ 8) : Int64.ofNat (e256 l) = Int64.ofNat (e256 k) ↔ l = k :=
  ⟨fun e => e256_inj _ l k (Nat.le_refl _) hl hk (i64_inj (e256_b hl h1) (e256_b hk h2) e), fun e => by rw [e]⟩
theorem kwS_ok : ∀ l ∈ kwS, l.length ≤ 8 ∧ ∀ c ∈ l, 97 ≤ c ∧ c ≤ 122 := by decide
theorem kwS_len : kwS.length = 20 := by decide
theorem tW_lwr {T : Nat → Nat} {n p : Nat} : lwr (tW T n p) := by
  intro c hc
  obtain ⟨i, h1, h2⟩ := lw_mem hc
  have h3 : cL T n (tQ T n p + i) = true := rn_in (n - tQ T n p) (tQ T n p) (tQ T n p + i) (by omega) (by unfold tL at h1; omega)
  have := of_decide_eq_true h3
  rw [← h2]
  exact this.2
theorem tW_len {T : Nat → Nat} {n p : Nat} : (tW T n p).length = tL T n p - tQ T n p := lw_len
