/-! numbers (the rows za_and, za_or, za_xor, za_sl began as rows of kit/laws NUMBERS, COUNTS, BITS) -/
theorem za_and (a b : Nat) : nI a &&& nI b = nI (a &&& b) := by
  apply Int32.toBitVec_inj.1
  show BitVec.ofNat 32 a &&& BitVec.ofNat 32 b = BitVec.ofNat 32 (a &&& b)
  apply BitVec.eq_of_getLsbD_eq
  intro i hi
  simp [hi]
theorem za_or (a b : Nat) : nI a ||| nI b = nI (a ||| b) := by
  apply Int32.toBitVec_inj.1
  show BitVec.ofNat 32 a ||| BitVec.ofNat 32 b = BitVec.ofNat 32 (a ||| b)
  apply BitVec.eq_of_getLsbD_eq
  intro i hi
  simp [hi]
theorem za_xor (a b : Nat) : nI a ^^^ nI b = nI (a ^^^ b) := by
  apply Int32.toBitVec_inj.1
  show BitVec.ofNat 32 a ^^^ BitVec.ofNat 32 b = BitVec.ofNat 32 (a ^^^ b)
  apply BitVec.eq_of_getLsbD_eq
  intro i hi
  simp [hi]
theorem za_sl : ∀ n, n < 32 → ((nI n &&& 31).toBitVec.smod 32).toNat = n := by decide +kernel
theorem za_shl {n k : Nat} (hk : k < 32) (h : n * 2 ^ k < 2 ^ 32) : js_shl (nI n) (nI k) = nI (n * 2 ^ k) := pk_shlN _ k (za_sl k hk) h
theorem za_shr {n k : Nat} (hn : n < 2 ^ 31) (hk : k < 32) : js_shr (nI n) (nI k) = nI (n / 2 ^ k) := pk_shrN hn _ k (za_sl k hk)
theorem za_bit1 {k : Nat} (hk : k < 31) : js_shl 1 (nI k) = nI (2 ^ k) := by
  have h := za_shl (n := 1) (k := k) (by omega) (by rw [Nat.one_mul]; exact Nat.pow_lt_pow_right (by decide) (by omega))
  rw [Nat.one_mul] at h
  exact h
theorem za_tb {n k : Nat} (hn : n < 2 ^ 31) (hk : k < 32) : js_shr (nI n) (nI k) &&& 1 = nI (n / 2 ^ k % 2) := by
  rw [za_shr hn hk]
  exact pk_andN (m := 1) (Nat.lt_of_le_of_lt (Nat.div_le_self _ _) (by omega)) 1 (by decide)
theorem za_tbit (n k : Nat) : n / 2 ^ k % 2 = if n.testBit k then 1 else 0 := by
  rw [Nat.testBit_eq_decide_div_mod_eq]
  by_cases h : n / 2 ^ k % 2 = 1
  · simp [h]
  · have : n / 2 ^ k % 2 < 2 := Nat.mod_lt _ (by decide)
    simp only [h, decide_false]
    simp
    omega
theorem za_tb1 {n k : Nat} (hn : n < 2 ^ 31) (hk : k < 32) : js_shr (nI n) (nI k) &&& 1 = 1 ↔ n.testBit k = true := by
  rw [za_tb hn hk, za_tbit]
  cases n.testBit k <;> decide
theorem za_tb0 {n k : Nat} (hn : n < 2 ^ 31) (hk : k < 32) : js_shr (nI n) (nI k) &&& 1 = 0 ↔ n.testBit k = false := by
  rw [za_tb hn hk, za_tbit]
  cases n.testBit k <;> decide
theorem za_rem {a d : Nat} (ha : a < 2 ^ 31) (h0 : 0 < d) (hd : d < 2 ^ 31) : js_rem (nI a) (nI d) = nI (a % d) := pk_rem ha h0 hd
theorem za_min {a b : Nat} (ha : a < 2 ^ 31) (hb : b < 2 ^ 31) : js_min (nI a) (nI b) = nI (min a b) := by
  unfold js_min
  by_cases h : b < a
  · rw [if_pos ((nI_ltI hb ha).mpr h), Nat.min_eq_right (by omega)]
  · rw [if_neg (fun z => h ((nI_ltI hb ha).mp z)), Nat.min_eq_left (by omega)]
theorem za_max {a b : Nat} (ha : a < 2 ^ 31) (hb : b < 2 ^ 31) : js_max (nI a) (nI b) = nI (max a b) := by
  unfold js_max
  by_cases h : a < b
  · rw [if_pos ((nI_ltI ha hb).mpr h), Nat.max_eq_right (by omega)]
  · rw [if_neg (fun z => h ((nI_ltI ha hb).mp z)), Nat.max_eq_left (by omega)]
theorem za_lesser {a b : Nat} (ha : a < 2 ^ 31) (hb : b < 2 ^ 31) : hX10_lesser (nI a) (nI b) = nI (min a b) := by
  unfold hX10_lesser
  by_cases h : b ≤ a
  · rw [if_pos ((nI_leI hb ha).mpr h), Nat.min_eq_right h]
  · rw [if_neg (fun z => h ((nI_leI hb ha).mp z)), Nat.min_eq_left (by omega)]
theorem za_greater {a b : Nat} (ha : a < 2 ^ 31) (hb : b < 2 ^ 31) : hX10_greater (nI a) (nI b) = nI (max a b) := by
  unfold hX10_greater
  by_cases h : a ≤ b
  · rw [if_pos ((nI_leI ha hb).mpr h), Nat.max_eq_right h]
  · rw [if_neg (fun z => h ((nI_leI ha hb).mp z)), Nat.max_eq_left (by omega)]
/-- 0 at least: a difference -/
theorem za_lt0 {a b : Nat} (ha : a < 2 ^ 30) (hb : b < 2 ^ 30) : nI a - nI b < 0 ↔ a < b := by
  constructor
  · intro h
    rcases Nat.lt_or_ge a b with q | q
    · exact q
    · rw [pk_sub q] at h
      exact absurd h (nI_pos (by omega))
  · exact pk_sneg hb
theorem za_max0 {a b : Nat} (ha : a < 2 ^ 30) (hb : b < 2 ^ 30) : js_max 0 (nI a - nI b) = nI (a - b) := by
  unfold js_max
  rcases Nat.lt_or_ge a b with q | q
  · have h := (za_lt0 ha hb).mpr q
    rw [if_neg (fun z => Int32.lt_irrefl (Int32.lt_trans z h)), show a - b = 0 by omega]
    rfl
  · rw [pk_sub q]
    by_cases h : (0 : Int32) < nI (a - b)
    · rw [if_pos h]
    · rw [if_neg h]
      have h2 : ¬ (0 : Nat) < a - b := fun z => h (show nI 0 < nI (a - b) from (nI_ltI (by omega) (by omega)).mpr z)
      rw [show a - b = 0 by omega]
      rfl
theorem za_greater0 {a b : Nat} (ha : a < 2 ^ 30) (hb : b < 2 ^ 30) : hX10_greater 0 (nI a - nI b) = nI (a - b) := by
  unfold hX10_greater
  rcases Nat.lt_or_ge a b with q | q
  · have h := (za_lt0 ha hb).mpr q
    rw [if_neg (fun z => Int32.lt_irrefl (Int32.lt_of_le_of_lt z h)), show a - b = 0 by omega]
    rfl
  · have h : (0 : Int32) ≤ nI (a - b) := (nI_leI (a := 0) (by omega) (by omega)).mpr (Nat.zero_le _)
    rw [pk_sub q, if_pos h]
theorem za_le {a b : Nat} (ha : a < 2 ^ 31) (hb : b < 2 ^ 31) (h : nI a ≤ nI b) : a ≤ b := (nI_leI ha hb).mp h
theorem za_nle {a b : Nat} (ha : a < 2 ^ 31) (hb : b < 2 ^ 31) (h : ¬ nI a ≤ nI b) : b < a := Nat.not_le.mp (fun z => h ((nI_leI ha hb).mpr z))
theorem za_lt {a b : Nat} (ha : a < 2 ^ 31) (hb : b < 2 ^ 31) (h : nI a < nI b) : a < b := (nI_ltI ha hb).mp h
theorem za_nlt {a b : Nat} (ha : a < 2 ^ 31) (hb : b < 2 ^ 31) (h : ¬ nI a < nI b) : b ≤ a := Nat.not_lt.mp (fun z => h ((nI_ltI ha hb).mpr z))
theorem za_eq {a b : Nat} (ha : a < 2 ^ 31) (hb : b < 2 ^ 31) (h : nI a = nI b) : a = b := (nI_eq ha hb).mp h
theorem za_ne {a b : Nat} (ha : a < 2 ^ 31) (hb : b < 2 ^ 31) (h : ¬ nI a = nI b) : a ≠ b := fun z => h (by rw [z])
/-- a loop that goes up -/
theorem za_up (n : Nat) (P : Nat → Prop) (h : ∀ i, i ≤ n → (i < n → P (i + 1)) → P i) : ∀ i, i ≤ n → P i := by
  intro i hi
  have key : ∀ k i, i + k = n → P i := by
    intro k
    induction k with
    | zero => intro i e; exact h i (by omega) (fun q => absurd q (by omega))
    | succ k ih => intro i e; exact h i (by omega) (fun _ => ih (i + 1) (by omega))
  exact key (n - i) i (by omega)
/-- one place anew -/
def za_u {α : Type} (f : Nat → α) (k : Nat) (v : α) : Nat → α := fun j => if j = k then v else f j
theorem za_us {α : Type} {f : Nat → α} {k : Nat} {v : α} : za_u f k v k = v := if_pos rfl
theorem za_un {α : Type} {f : Nat → α} {k j : Nat} {v : α} (h : j ≠ k) : za_u f k v j = f j := if_neg h
theorem za_ule {f : Nat → Nat} {k v i c : Nat} (hv : v ≤ c) (hf : f i ≤ c) : za_u f k v i ≤ c := by
  by_cases h : i = k
  · rw [h, za_us]; exact hv
  · rw [za_un h]; exact hf
/-- worlds that agree but in some cells -/
def ag (S : List Nat) (w w' : pw_W) : Prop := w'.1 = w.1 ∧ ∀ a, a ∉ S → pw_I w' a = pw_I w a ∧ pw_L w' a = pw_L w a
theorem ag.rf {S : List Nat} {w : pw_W} : ag S w w := ⟨rfl, fun _ _ => ⟨rfl, rfl⟩⟩
theorem ag.tr {S : List Nat} {w w1 w2 : pw_W} (h1 : ag S w w1) (h2 : ag S w1 w2) : ag S w w2 := ⟨h2.1.trans h1.1, fun a ha => ⟨(h2.2 a ha).1.trans (h1.2 a ha).1, (h2.2 a ha).2.trans (h1.2 a ha).2⟩⟩
theorem ag.mono {S T : List Nat} {w w1 : pw_W} (h : ag S w w1) (hs : ∀ a, a ∈ S → a ∈ T) : ag T w w1 := ⟨h.1, fun a ha => h.2 a (fun z => ha (hs a z))⟩
theorem ag.sI {S : List Nat} {w : pw_W} {r k : Nat} {v : Int32} (h : r ∈ S) : ag S w (pw_sI w r k v) := ⟨rfl, fun a ha => ⟨funext fun b => by rw [pw_I_sI, if_neg (fun z => ha (by rw [z.1]; exact h))], rfl⟩⟩
theorem ag.sL {S : List Nat} {w : pw_W} {r k : Nat} {v : Int64} (h : r ∈ S) : ag S w (pw_sL w r k v) := ⟨rfl, fun a ha => ⟨rfl, funext fun b => by rw [pw_L_sL, if_neg (fun z => ha (by rw [z.1]; exact h))]⟩⟩
theorem ag.sA {S : List Nat} {w : pw_W} {r : Nat} {f : Nat → Int32} (h : r ∈ S) : ag S w (pw_sA w r f) := ⟨rfl, fun a ha => ⟨funext fun b => by rw [pw_I_sA, if_neg (fun z => ha (by rw [z]; exact h))], rfl⟩⟩
theorem ag.I {S : List Nat} {w w' : pw_W} (h : ag S w w') {a : Nat} (ha : a ∉ S) (k : Nat) : pw_I w' a k = pw_I w a k := by rw [(h.2 a ha).1]
theorem ag.L {S : List Nat} {w w' : pw_W} (h : ag S w w') {a : Nat} (ha : a ∉ S) (k : Nat) : pw_L w' a k = pw_L w a k := by rw [(h.2 a ha).2]
theorem pw_same {w : pw_W} {r k : Nat} {v : Int32} : pw_I (pw_sI w r k v) r k = v := if_pos ⟨rfl, rfl⟩
theorem pw_oth {w : pw_W} {r k a b : Nat} {v : Int32} (h : a = r → b = k → False) : pw_I (pw_sI w r k v) a b = pw_I w a b := if_neg (fun z => h z.1 z.2)
