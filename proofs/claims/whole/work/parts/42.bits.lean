/-! how many bits -/
theorem and256 {a c : Nat} (x y : Nat) (ha : a < 256) (hc : c < 256) : (a + 256 * x) &&& (c + 256 * y) = (a &&& c) + 256 * (x &&& y) := by
  have hac : a &&& c < 2 ^ 8 := Nat.lt_of_le_of_lt Nat.and_le_left ha
  apply Nat.eq_of_testBit_eq
  intro i
  rw [Nat.testBit_and, Nat.add_comm a, Nat.add_comm c, Nat.add_comm (a &&& c), show 256 = 2 ^ 8 from rfl, Nat.testBit_two_pow_mul_add _ ha, Nat.testBit_two_pow_mul_add _ hc, Nat.testBit_two_pow_mul_add _ hac]
  by_cases h : i < 8
  · simp [h, Nat.testBit_and]
  · simp [h, Nat.testBit_and]
theorem bL1 {b : Nat} (x m : Nat) (hb : b < 256) : ((b + 256 * x) / 2) &&& (85 + 256 * m) = ((b / 2) &&& 85) + 256 * ((x / 2) &&& m) := by
  rw [show (b + 256 * x) / 2 = (b / 2 + 128 * (x % 2)) + 256 * (x / 2) by omega, and256 _ _ (by omega) (by decide)]
  have : ∀ b, b < 256 → ∀ e, e < 2 → (b / 2 + 128 * e) &&& 85 = (b / 2) &&& 85 := by decide +kernel
  rw [this b hb _ (Nat.mod_lt _ (by decide))]
theorem bL2 {b : Nat} (x m : Nat) (hb : b < 256) : ((b + 256 * x) / 4) &&& (51 + 256 * m) = ((b / 4) &&& 51) + 256 * ((x / 4) &&& m) := by
  rw [show (b + 256 * x) / 4 = (b / 4 + 64 * (x % 4)) + 256 * (x / 4) by omega, and256 _ _ (by omega) (by decide)]
  have : ∀ b, b < 256 → ∀ e, e < 4 → (b / 4 + 64 * e) &&& 51 = (b / 4) &&& 51 := by decide +kernel
  rw [this b hb _ (Nat.mod_lt _ (by decide))]
theorem bL3 {b x : Nat} (m : Nat) (hb : b ≤ 68) (hx : x % 16 ≤ 4) : ((b + 256 * x) + (b + 256 * x) / 16) &&& (15 + 256 * m) = ((b + b / 16) &&& 15) + 256 * ((x + x / 16) &&& m) := by
  rw [show (b + 256 * x) + (b + 256 * x) / 16 = (b + b / 16 + 16 * (x % 16)) + 256 * (x + x / 16) by omega, and256 _ _ (by omega) (by decide)]
  have : ∀ b, b < 69 → ∀ e, e < 5 → (b + b / 16 + 16 * e) &&& 15 = (b + b / 16) &&& 15 := by decide +kernel
  rw [this b (by omega) _ (by omega)]
def mk4 (a b c d : Nat) : Nat := a + 256 * (b + 256 * (c + 256 * (d + 256 * 0)))
def bt1 (b : Nat) : Nat := b - ((b / 2) &&& 85)
def bt2 (b : Nat) : Nat := (b &&& 51) + ((b / 4) &&& 51)
def bt3 (b : Nat) : Nat := (b + b / 16) &&& 15
theorem bt_ok : ∀ b, b < 256 → (b / 2) &&& 85 ≤ b ∧ bt1 b < 256 ∧ bt2 (bt1 b) ≤ 68 ∧ bt2 (bt1 b) % 16 ≤ 4 ∧ bt3 (bt2 (bt1 b)) ≤ 8 ∧ bt3 (bt2 (bt1 b)) = aPcK b 8 := by decide +kernel
theorem ushrN {n : Nat} (hn : n < 2 ^ 32) : js_ushr (nI n) 1 = nI (n / 2) ∧ js_ushr (nI n) 2 = nI (n / 4) ∧ js_ushr (nI n) 4 = nI (n / 16) ∧ js_ushr (nI n) 8 = nI (n / 256) ∧ js_ushr (nI n) 16 = nI (n / 65536) := by
  have key : ∀ (y : Int32) (k : Nat), (y.toUInt32 &&& Int32.toUInt32 31).toBitVec.toNat % 32 = k → js_ushr (nI n) y = nI (n / 2 ^ k) := by
    intro y k hk
    apply Int32.toBitVec_inj.1
    show (BitVec.ofNat 32 n) >>> ((y.toUInt32 &&& Int32.toUInt32 31).toBitVec % 32#32) = BitVec.ofNat 32 (n / 2 ^ k)
    apply BitVec.eq_of_toNat_eq
    have e : ((y.toUInt32 &&& Int32.toUInt32 31).toBitVec % 32#32).toNat = k := by rw [BitVec.toNat_umod]; exact hk
    rw [BitVec.ushiftRight_eq', BitVec.toNat_ushiftRight, e, BitVec.toNat_ofNat, BitVec.toNat_ofNat, Nat.mod_eq_of_lt hn, Nat.shiftRight_eq_div_pow, Nat.mod_eq_of_lt (Nat.lt_of_le_of_lt (Nat.div_le_self _ _) hn)]
  exact ⟨key 1 1 (by decide), key 2 2 (by decide), key 4 4 (by decide), key 8 8 (by decide), key 16 16 (by decide)⟩
def bF (n : Nat) : Nat :=
  (fun s1 => (fun s2 => (fun s3 => (fun s4 => (s4 + s4 / 65536) &&& 63) (s3 + s3 / 256)) ((s2 + s2 / 16) &&& 252645135)) ((s1 &&& 858993459) + (s1 / 4 &&& 858993459))) (n - (n / 2 &&& 1431655765))
theorem mk4_lt {a b c d k : Nat} (ha : a ≤ k) (hb : b ≤ k) (hc : c ≤ k) (hd : d ≤ k) : mk4 a b c d ≤ k * 16843009 := by
  unfold mk4; omega
theorem bF_mk {a b c d : Nat} (ha : a < 256) (hb : b < 256) (hc : c < 256) (hd : d < 256) :
    mk4 a b c d - (mk4 a b c d / 2 &&& 1431655765) = mk4 (bt1 a) (bt1 b) (bt1 c) (bt1 d) ∧ (mk4 a b c d / 2 &&& 1431655765) ≤ mk4 a b c d := by
  have e : mk4 a b c d / 2 &&& 1431655765 = mk4 (a / 2 &&& 85) (b / 2 &&& 85) (c / 2 &&& 85) (d / 2 &&& 85) := by
    show mk4 a b c d / 2 &&& (85 + 256 * (85 + 256 * (85 + 256 * (85 + 256 * 0)))) = _
    unfold mk4
    rw [bL1 _ _ ha, bL1 _ _ hb, bL1 _ _ hc, bL1 _ _ hd]
    rfl
  rw [e]
  have := (bt_ok a ha).1
  have := (bt_ok b hb).1
  have := (bt_ok c hc).1
  have := (bt_ok d hd).1
  unfold mk4 bt1
  omega
theorem bF_2 {a b c d : Nat} (ha : a < 256) (hb : b < 256) (hc : c < 256) (hd : d < 256) :
    (mk4 a b c d &&& 858993459) + (mk4 a b c d / 4 &&& 858993459) = mk4 (bt2 a) (bt2 b) (bt2 c) (bt2 d) := by
  have e1 : mk4 a b c d &&& 858993459 = mk4 (a &&& 51) (b &&& 51) (c &&& 51) (d &&& 51) := by
    show mk4 a b c d &&& (51 + 256 * (51 + 256 * (51 + 256 * (51 + 256 * 0)))) = _
    unfold mk4
    rw [and256 _ _ ha (by decide), and256 _ _ hb (by decide), and256 _ _ hc (by decide), and256 _ _ hd (by decide)]
    rfl
  have e2 : mk4 a b c d / 4 &&& 858993459 = mk4 (a / 4 &&& 51) (b / 4 &&& 51) (c / 4 &&& 51) (d / 4 &&& 51) := by
    show mk4 a b c d / 4 &&& (51 + 256 * (51 + 256 * (51 + 256 * (51 + 256 * 0)))) = _
    unfold mk4
    rw [bL2 _ _ ha, bL2 _ _ hb, bL2 _ _ hc, bL2 _ _ hd]
    rfl
  rw [e1, e2]
  unfold mk4 bt2
  omega
theorem bF_3 {a b c d : Nat} (ha : a ≤ 68) (hb : b ≤ 68) (hc : c ≤ 68) (hd : d ≤ 68) (hb' : b % 16 ≤ 4) (hc' : c % 16 ≤ 4) (hd' : d % 16 ≤ 4) :
    (mk4 a b c d + mk4 a b c d / 16) &&& 252645135 = mk4 (bt3 a) (bt3 b) (bt3 c) (bt3 d) := by
  show (mk4 a b c d + mk4 a b c d / 16) &&& (15 + 256 * (15 + 256 * (15 + 256 * (15 + 256 * 0)))) = _
  unfold mk4
  rw [bL3 _ ha (by omega), bL3 _ hb (by omega), bL3 _ hc (by omega), bL3 _ hd (by omega)]
  rfl
theorem aPcK_s (n k : Nat) : aPcK n (k + 1) = aPcK n k + n / 2 ^ k % 2 := rfl
theorem aPcK_8 {b : Nat} (x : Nat) (hb : b < 256) : ∀ k, aPcK (b + 256 * x) (8 + k) = aPcK b 8 + aPcK x k
  | 0 => by
    show aPcK (b + 256 * x) 8 = aPcK b 8 + 0
    simp only [aPcK]
    omega
  | k + 1 => by
    have ih := aPcK_8 x hb k
    show aPcK (b + 256 * x) (8 + k) + (b + 256 * x) / 2 ^ (8 + k) % 2 = aPcK b 8 + (aPcK x k + x / 2 ^ k % 2)
    rw [ih, Nat.pow_add, ← Nat.div_div_eq_div_mul, show (b + 256 * x) / 2 ^ 8 = x by show (b + 256 * x) / 256 = x; omega]
    omega
theorem fin4 {a b c d : Nat} (ha : a ≤ 8) (hb : b ≤ 8) (hc : c ≤ 8) (hd : d ≤ 8) : (mk4 a b c d + mk4 a b c d / 256 + (mk4 a b c d + mk4 a b c d / 256) / 65536) % 64 = a + (b + (c + (d + 0))) := by
  have e0 : mk4 a b c d = a + 256 * b + 65536 * c + 16777216 * d := by unfold mk4; omega
  have e1 : mk4 a b c d / 256 = b + 256 * c + 65536 * d := by rw [e0]; omega
  have e2 : mk4 a b c d + mk4 a b c d / 256 = (a + b) + 256 * (b + c) + 65536 * (c + d) + 16777216 * d := by rw [e1, e0]; omega
  have e3 : (mk4 a b c d + mk4 a b c d / 256) / 65536 = (c + d) + 256 * d := by rw [e2]; omega
  rw [e3, e2]
  omega
theorem bcN {n : Nat} (hn : n < 2 ^ 32) : hJ6_bitCount_0f7a4 (nI n) = nI (aPcK n 32) := by
  obtain ⟨a, b, c, d, ha, hb, hc, hd, rfl⟩ : ∃ a b c d, a < 256 ∧ b < 256 ∧ c < 256 ∧ d < 256 ∧ n = mk4 a b c d := ⟨n % 256, n / 256 % 256, n / 65536 % 256, n / 16777216, by omega, by omega, by omega, by omega, by unfold mk4; omega⟩
  obtain ⟨a1, a2, a3, a4, a5, a6⟩ := bt_ok a ha
  obtain ⟨b1, b2, b3, b4, b5, b6⟩ := bt_ok b hb
  obtain ⟨c1, c2, c3, c4, c5, c6⟩ := bt_ok c hc
  obtain ⟨d1, d2, d3, d4, d5, d6⟩ := bt_ok d hd
  have u := ushrN hn
  have s1 : nI (mk4 a b c d) - (js_ushr (nI (mk4 a b c d)) 1 &&& 1431655765) = nI (mk4 (bt1 a) (bt1 b) (bt1 c) (bt1 d)) := by
    rw [u.1, show (1431655765 : Int32) = nI 1431655765 from rfl, za_and, pk_sub (bF_mk ha hb hc hd).2, (bF_mk ha hb hc hd).1]
  have l1 : mk4 (bt1 a) (bt1 b) (bt1 c) (bt1 d) < 2 ^ 32 := by unfold mk4; omega
  have u1 := ushrN l1
  have s2 : (nI (mk4 (bt1 a) (bt1 b) (bt1 c) (bt1 d)) &&& 858993459) + (js_ushr (nI (mk4 (bt1 a) (bt1 b) (bt1 c) (bt1 d))) 2 &&& 858993459) = nI (mk4 (bt2 (bt1 a)) (bt2 (bt1 b)) (bt2 (bt1 c)) (bt2 (bt1 d))) := by
    rw [u1.2.1, show (858993459 : Int32) = nI 858993459 from rfl, za_and, za_and, nI_add, bF_2 a2 b2 c2 d2]
  have l2 : mk4 (bt2 (bt1 a)) (bt2 (bt1 b)) (bt2 (bt1 c)) (bt2 (bt1 d)) < 2 ^ 32 := by unfold mk4; omega
  have u2 := ushrN l2
  have s3 : (nI (mk4 (bt2 (bt1 a)) (bt2 (bt1 b)) (bt2 (bt1 c)) (bt2 (bt1 d))) + js_ushr (nI (mk4 (bt2 (bt1 a)) (bt2 (bt1 b)) (bt2 (bt1 c)) (bt2 (bt1 d)))) 4) &&& 252645135 = nI (mk4 (aPcK a 8) (aPcK b 8) (aPcK c 8) (aPcK d 8)) := by
    rw [u2.2.2.1, nI_add, show (252645135 : Int32) = nI 252645135 from rfl, za_and, bF_3 a3 b3 c3 d3 b4 c4 d4, a6, b6, c6, d6]
  rw [a6] at a5
  rw [b6] at b5
  rw [c6] at c5
  rw [d6] at d5
  unfold hJ6_bitCount_0f7a4
  rw [s1, s2, s3]
  generalize ea : aPcK a 8 = pa at a5 ⊢
  generalize eb : aPcK b 8 = pb at b5 ⊢
  generalize ec : aPcK c 8 = pc at c5 ⊢
  generalize ed : aPcK d 8 = pd at d5 ⊢
  have l3 : mk4 pa pb pc pd < 2 ^ 32 := by unfold mk4; omega
  rw [(ushrN l3).2.2.2.1, nI_add]
  have l4 : mk4 pa pb pc pd + mk4 pa pb pc pd / 256 < 2 ^ 32 := by unfold mk4; omega
  rw [(ushrN l4).2.2.2.2, nI_add, show (63 : Int32) = nI 63 from rfl, za_and]
  congr 1
  rw [show (63 : Nat) = 2 ^ 6 - 1 from rfl, Nat.and_two_pow_sub_one_eq_mod]
  have e : aPcK (mk4 a b c d) 32 = pa + (pb + (pc + (pd + 0))) := by
    unfold mk4
    rw [show 32 = 8 + (8 + (8 + (8 + 0))) from rfl, aPcK_8 _ ha, aPcK_8 _ hb, aPcK_8 _ hc, aPcK_8 _ hd, ea, eb, ec, ed]
    rfl
  rw [e]
  exact fin4 a5 b5 c5 d5
def aCtK (f : Nat → Bool) : Nat → Nat
  | 0 => 0
  | v + 1 => aCtK f v + (if f v = true then 1 else 0)
theorem aCtK_le (f : Nat → Bool) : ∀ v, aCtK f v ≤ v
  | 0 => Nat.le_refl _
  | v + 1 => by
    have := aCtK_le f v
    show aCtK f v + (if f v = true then 1 else 0) ≤ v + 1
    split <;> omega
theorem aCt_Pc {n : Nat} {f : Nat → Bool} : ∀ k, (∀ i, i < k → n.testBit i = f i) → aPcK n k = aCtK f k
  | 0, _ => rfl
  | k + 1, h => by
    rw [aPcK_s, aCt_Pc k (fun i hi => h i (by omega)), za_tbit, h k (by omega)]
    rfl
theorem aCt_0 {f : Nat → Bool} : ∀ k, aCtK f k = 0 ↔ ∀ i, i < k → f i = false
  | 0 => ⟨fun _ i hi => absurd hi (Nat.not_lt_zero _), fun _ => rfl⟩
  | k + 1 => by
    have ih := aCt_0 (f := f) k
    show aCtK f k + (if f k = true then 1 else 0) = 0 ↔ _
    constructor
    · intro e i hi
      by_cases z : i = k
      · subst z
        cases hf : f i with
        | false => rfl
        | true => rw [hf] at e; simp at e
      · exact ih.mp (by omega) i (by omega)
    · intro hz
      rw [ih.mpr (fun i hi => hz i (by omega)), hz k (by omega)]
      rfl
theorem bcFt {h : aH} {g : aG} {n : Nat} {k : Int32} : hJ6_bitCount_0f7a4 (nI (aFtK h g n k 31)) = nI (aCtK (fun v => aAgK h g v k n) 31) := by
  have l := aFtK_lt (h := h) (g := g) (n := n) (k := k) 31
  rw [bcN (by omega), show 32 = 31 + 1 from rfl, aPcK_s, aCt_Pc (f := fun v => aAgK h g v k n) 31 (fun i hi => by rw [aFtK_bit]; simp [hi]), Nat.div_eq_of_lt l]
  rfl
theorem aFt_0 {h : aH} {g : aG} {n : Nat} {k : Int32} : aFtK h g n k 31 = 0 ↔ aCtK (fun v => aAgK h g v k n) 31 = 0 := by
  rw [aCt_0]
  constructor
  · intro e i hi
    have := aFtK_bit (h := h) (g := g) (n := n) (k := k) 31 i
    rw [e, Nat.zero_testBit] at this
    simp [hi] at this
    exact this
  · intro hz
    apply Nat.eq_of_testBit_eq
    intro i
    rw [aFtK_bit, Nat.zero_testBit]
    by_cases hi : i < 31
    · have := hz i hi
      simp [hi]
      exact this
    · simp [hi]
