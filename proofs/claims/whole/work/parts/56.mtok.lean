/-! the reference's tokens -/
def hre (T : Nat → Nat) (n i : Nat) : Int32 := if i < n then nI (T i) else -1
theorem hre_L {T : Nat → Nat} {n i : Nat} (hT : ∀ i, i < n → T i < 256) : pX10_isLetter (hre T n i) ↔ cL T n i = true := by
  unfold hre pX10_isLetter
  by_cases h : i < n
  · have t9 := hT i h
    rw [if_pos h]
    constructor
    · rintro ⟨h1, h2⟩
      refine decide_eq_true ⟨h, ?_, ?_⟩
      · rcases Nat.lt_or_ge (T i) 97 with q | q
        · exact absurd (nI_lt (b := 97) q (by decide)) h1
        · exact q
      · rcases Nat.lt_or_ge 122 (T i) with q | q
        · exact absurd (nI_lt (a := 122) q (by omega)) h2
        · exact q
    · intro h2
      have := of_decide_eq_true h2
      exact ⟨nI_nlt (b := 97) (by omega) (by omega), nI_nlt (a := 122) (by omega) (by omega)⟩
  · rw [if_neg h]
    constructor
    · rintro ⟨h1, h2⟩; exact absurd (by decide) h1
    · intro h2; exact absurd (of_decide_eq_true h2).1 h
theorem hre_D {T : Nat → Nat} {n i : Nat} (hT : ∀ i, i < n → T i < 256) : pX10_isDigit (hre T n i) ↔ cD T n i = true := by
  unfold hre pX10_isDigit
  by_cases h : i < n
  · have t9 := hT i h
    rw [if_pos h]
    constructor
    · rintro ⟨h1, h2⟩
      refine decide_eq_true ⟨h, ?_, ?_⟩
      · rcases Nat.lt_or_ge (T i) 48 with q | q
        · exact absurd (nI_lt (b := 48) q (by decide)) h1
        · exact q
      · rcases Nat.lt_or_ge 57 (T i) with q | q
        · exact absurd (nI_lt (a := 57) q (by omega)) h2
        · exact q
    · intro h2
      have := of_decide_eq_true h2
      exact ⟨nI_nlt (b := 48) (by omega) (by omega), nI_nlt (a := 57) (by omega) (by omega)⟩
  · rw [if_neg h]
    constructor
    · rintro ⟨h1, h2⟩; exact absurd (by decide) h1
    · intro h2; exact absurd (of_decide_eq_true h2).1 h
theorem hre_B {T : Nat → Nat} {n i : Nat} (hT : ∀ i, i < n → T i < 256) : (hre T n i = 32 ∨ hre T n i = 10) ↔ cB T n i = true := by
  unfold hre
  by_cases h : i < n
  · have t9 := hT i h
    rw [if_pos h]
    constructor
    · rintro (h1 | h1)
      · exact decide_eq_true ⟨h, Or.inl (za_eq (b := 32) (by omega) (by decide) h1)⟩
      · exact decide_eq_true ⟨h, Or.inr (za_eq (b := 10) (by omega) (by decide) h1)⟩
    · intro h2
      rcases (of_decide_eq_true h2).2 with e | e
      · left; rw [e]; rfl
      · right; rw [e]; rfl
  · rw [if_neg h]
    constructor
    · rintro (h1 | h1)
      · exact absurd h1 (by decide)
      · exact absurd h1 (by decide)
    · intro h2; exact absurd (of_decide_eq_true h2).1 h
theorem sg_M' : ∀ c, c < 256 → (decide (pX10_isSign (nI c)) = decide (c ∈ sgS)) := by decide +kernel
theorem sg_M {c : Nat} (h : c < 256) : pX10_isSign (nI c) ↔ c ∈ sgS := by
  have := sg_M' c h
  constructor
  · intro q; exact of_decide_eq_true (this ▸ decide_eq_true q)
  · intro q; exact of_decide_eq_true (this.symm ▸ decide_eq_true q)
theorem l8_one' : ∀ c, c < 256 → (nI c).toInt64 = Int64.ofNat c := by decide +kernel
theorem l8 {a c : Nat} (ha : a < 2 ^ 55) (hc : c < 256) : js_lshl (Int64.ofNat a) 8 ||| (nI c).toInt64 = Int64.ofNat (a * 256 + c) := by
  rw [l8_one' c hc]
  have e8 : (8 : Int32).toInt64 &&& 63 = 8 := by decide
  unfold js_lshl
  rw [e8]
  apply Int64.toBitVec_inj.mp
  apply BitVec.eq_of_toNat_eq
  have e : a * 256 + c = a <<< 8 ||| c := by
    rw [← Nat.shiftLeft_add_eq_or_of_lt (by omega : c < 2 ^ 8), Nat.shiftLeft_eq]
  rw [Int64.toBitVec_or, BitVec.toNat_or, Int64.toBitVec_shiftLeft]
  have h1 : (Int64.ofNat c).toBitVec.toNat = c := by
    show (BitVec.ofNat 64 c).toNat = c
    rw [BitVec.toNat_ofNat]; omega
  have h2 : (Int64.ofNat a).toBitVec = BitVec.ofNat 64 a := rfl
  have h3 : (Int64.ofNat (a * 256 + c)).toBitVec = BitVec.ofNat 64 (a * 256 + c) := rfl
  have h4 : (8 : Int64).toBitVec.smod 64 = 8#64 := by decide
  rw [h1, h2, h3, h4, BitVec.toNat_ofNat, Nat.mod_eq_of_lt (by omega : a * 256 + c < 2 ^ 64), e]
  congr 1
  rw [BitVec.shiftLeft_eq', BitVec.toNat_shiftLeft, BitVec.toNat_ofNat, Nat.mod_eq_of_lt (by omega : a < 2 ^ 64)]
  show a <<< 8 % 2 ^ 64 = a <<< 8
  rw [Nat.shiftLeft_eq]
  omega
/-- the reference holds the token at p -/
def mS (T : Nat → Nat) (n p : Nat) : Int32 := if tC T n p = 0 then 0 else if tC T n p = 1 then 3 else if tC T n p = 2 then 2 else if tC T n p = 5 then nI (tV T n p) else 1
def MTk (T : Nat → Nat) (n p : Nat) (w : pw_W) : Prop := pw_I w 61 5 = nI n ∧ pw_I w 61 4 = nI (if tC T n p = 1 then tQ T n p else tE T n p) ∧ pw_I w 61 6 = mS T n p ∧ pw_I w 61 7 = nI (tQ T n p) ∧ (tC T n p = 2 → pw_I w 61 8 = nI (tV T n p)) ∧ ((tC T n p = 3 ∨ tC T n p = 4) → pw_L w 61 9 = Int64.ofNat (e256 (tW T n p)))
theorem MTk.agF {T : Nat → Nat} {n p : Nat} {w w' : pw_W} {S F : List Nat} (h : MTk T n p w) (ha : agF S F w w') (h61 : 61 ∉ S) (hf : ∀ a ∈ [4, 5, 6, 7, 8, 9], a ∉ F) : MTk T n p w' := by
  have e : pw_L w' 61 9 = pw_L w 61 9 := (ha.2 61 9 h61 (fun _ => hf 9 (by decide))).2
  unfold MTk
  rw [ha.F h61 (hf 5 (by decide)), ha.F h61 (hf 4 (by decide)), ha.F h61 (hf 6 (by decide)), ha.F h61 (hf 7 (by decide)), ha.F h61 (hf 8 (by decide)), e]
  exact h
section MSC
variable {E : px_E} {d : Nat} {w w0 : pw_W} {Q : Option Value → pw_W → Prop} {t : ct_T} {T : Nat → Nat} {n p : Nat}
theorem tX10_here {a x : Nat} {v : Int32} (hw : w.1 = cs t) (hn : n ≤ 1600) (h0 : ∀ i, i < n → pw_I w 62 i = nI (T i)) (h5 : pw_I w 61 5 = nI n) (h4 : pw_I w 61 4 = nI a) (hx : a + x ≤ n) (hv : v = nI x) (k : Q (some (.int (hre T n (a + x)))) w) : px_Call E (d + 1) 0 0 mX10_here [.ref 61, .int v] w Q := by
  subst hv
  unfold hre at k
  refine eX10_here hw (fun z => ?_) (fun z => ?_) <;> rw [h5, h4, nI_add] at z
  · rw [if_neg (fun h => nI_ge h (by omega) z)] at k
    exact bX10_here_28 hw k
  · have h : a + x < n := by
      rcases Nat.lt_or_ge (a + x) n with h | h
      · exact h
      · exact absurd (nI_le h (by omega)) z
    rw [if_pos h] at k
    refine bX10_here_13 hw (a + x) (by rw [h4, nI_add]) (by omega) (bX10_here_28 hw ?_)
    rw [h0 _ h]
    exact k

theorem xM_end {x : Nat} (hp : p ≤ n) (hn : n ≤ 1600) (hw : w.1 = cs t) (h5 : pw_I w 61 5 = nI n) (h4 : pw_I w 61 4 = nI (tQ T n p)) (h7 : pw_I w 61 7 = nI (tQ T n p)) (h6 : pw_I w 61 6 = mS T n p) (hx : tC T n p ≠ 1 → tE T n p = tQ T n p + x) (h8 : tC T n p = 2 → pw_I w 61 8 = nI (tV T n p)) (h9 : (tC T n p = 3 ∨ tC T n p = 4) → pw_L w 61 9 = Int64.ofNat (e256 (tW T n p))) (ha : agF [] [4, 6, 7, 8, 9] w0 w) (h3 : mS T n p = 3 ↔ tC T n p = 1)
    (k : ∀ w', w'.1 = cs t → agF [] [4, 6, 7, 8, 9] w0 w' → MTk T n p w' → Q none w') : px_W E mX10_token (d + 2) 0 0 232 [.ref 61, .null, .int (nI x)] [] w Q := by
  refine bX10_token_232 hw (fun z => ?_) (fun z => ?_) <;> rw [h6] at z
  · have e := h3.mp z
    refine bX10_token_250 hw (k w hw ha ⟨h5, ?_, h6, h7, h8, h9⟩)
    rw [if_pos e, h4]
  · have e : tC T n p ≠ 1 := fun q => z (h3.mpr q)
    refine bX10_token_250 (hI hw) (k _ (hI hw) (ha.tr (agF.sI (by decide))) ⟨?_, ?_, ?_, ?_, fun q => ?_, h9⟩)
    · rw [pw_oth (by decide)]; exact h5
    · rw [pw_same, if_neg e, hx e, h4, nI_add]
    · rw [pw_oth (by decide)]; exact h6
    · rw [pw_oth (by decide)]; exact h7
    · rw [pw_oth (by decide)]; exact h8 q
theorem mS_3 (hT : ∀ i, i < n → T i < 256) (hp : p ≤ n) : mS T n p = 3 ↔ tC T n p = 1 := by
  unfold mS
  by_cases h0 : tC T n p = 0
  · rw [if_pos h0]
    exact ⟨fun h => absurd h (by decide), fun h => by omega⟩
  · rw [if_neg h0]
    by_cases h1 : tC T n p = 1
    · rw [if_pos h1]; exact ⟨fun _ => h1, fun _ => rfl⟩
    · rw [if_neg h1]
      by_cases h2 : tC T n p = 2
      · rw [if_pos h2]; exact ⟨fun h => absurd h (by decide), fun h => absurd h h1⟩
      · rw [if_neg h2]
        by_cases h5 : tC T n p = 5
        · rw [if_pos h5]
          refine ⟨fun h => ?_, fun h => absurd h h1⟩
          have e1 : ¬ tQ T n p < tL T n p := fun q => by
            have := (tk_w q).2.1
            rw [h5] at this
            split at this
            · omega
            · split at this <;> omega
          have e2 : ¬ tQ T n p < tD T n p := fun q => by
            have := (tk_d e1 q).2.1
            rw [h5] at this
            split at this <;> omega
          have e3 : ¬ n ≤ tQ T n p := fun q => h0 (tk_e e1 e2 q).2
          obtain ⟨r1, r2, r3⟩ := tk_s e1 e2 e3
          have hm : T (tQ T n p) ∈ sgS := by
            rw [h5] at r2
            by_cases q : T (tQ T n p) ∈ sgS
            · exact q
            · rw [if_neg q] at r2; omega
          have l := sg_lt _ hm
          rw [r3] at h
          have h := za_eq (b := 3) (by omega) (by decide) h
          rw [h] at hm
          exact absurd hm (by decide)
        · rw [if_neg h5]; exact ⟨fun h => absurd h (by decide), fun h => absurd h h1⟩
theorem xM1 (hT : ∀ i, i < n → T i < 256) (hn : n ≤ 1600) (hp : p ≤ n) (h0 : ∀ i, i < n → pw_I w0 62 i = nI (T i)) (hlt : tQ T n p < tL T n p) (k : ∀ w', w'.1 = cs t → agF [] [4, 6, 7, 8, 9] w0 w' → MTk T n p w' → Q none w') :
    ∀ (m x : Nat) (w : pw_W), tQ T n p + x + m = tL T n p → w.1 = cs t → agF [] [4, 6, 7, 8, 9] w0 w → pw_I w 61 5 = nI n → pw_I w 61 4 = nI (tQ T n p) → pw_I w 61 7 = nI (tQ T n p) → pw_L w 61 9 = Int64.ofNat (e256 (lw T (tQ T n p) (if x ≤ 8 then x else 8))) → px_W E mX10_token (d + 2) 0 0 78 [.ref 61, .null, .int (nI x)] [] w Q := by
  have q2 := tL_le (T := T) hp
  intro m
  induction m with
  | zero =>
    intro x w e hw ha h5 h4 h7 h9
    have q : pX10_isLetter (hre T n (tQ T n p + x)) ↔ False := by
      rw [hre_L hT, show tQ T n p + x = tL T n p by omega, tL_end hp]
      exact ⟨fun z => (Bool.false_ne_true z).elim, fun z => z.elim⟩
    refine bX10_token_78 hw (tX10_here (T := T) (n := n) (a := tQ T n p) (x := x) hw hn (fun i hi => (ha.I (by decide) (by decide) i).trans (h0 i hi)) h5 h4 (by omega) rfl ?_)
    obtain ⟨r1, r2, r3⟩ := tk_w hlt
    have ew : tL T n p - tQ T n p = x := by omega
    refine bX10_token_83 hw (fun _ z => ?_) (fun _ z => ?_) (fun z => (q.mp z).elim) (fun z => (q.mp z).elim)
    · have x8 : ¬ 8 < x := fun h => nI_ge (a := 8) h (by omega) z
      have s1 : mS T n p = 1 := by
        unfold mS
        rw [r2, ew, if_neg x8]
        by_cases hm : tW T n p ∈ kwS
        · rw [if_pos hm]; rfl
        · rw [if_neg hm]; rfl
      refine bX10_token_131 hw (xM_end (p := p) hp hn (hI hw) ?_ ?_ ?_ ?_ (fun _ => by rw [r1]; omega) (fun h => ?_) (fun _ => ?_) (ha.tr (agF.sI (by decide))) (mS_3 hT hp) k)
      · rw [pw_oth (by decide)]; exact h5
      · rw [pw_oth (by decide)]; exact h4
      · rw [pw_oth (by decide)]; exact h7
      · rw [pw_same, s1]
      · rw [r2, ew, if_neg x8] at h
        split at h <;> omega
      · rw [pw_L_I, h9, if_pos (by omega)]
        unfold tW
        rw [ew]
    · have x8 : 8 < x := by
        rcases Nat.lt_or_ge 8 x with h | h
        · exact h
        · exact absurd (nI_le (b := 8) h (by omega)) z
      have c1 : tC T n p = 1 := by rw [r2, ew, if_pos x8]
      refine bX10_token_131 hw (xM_end (p := p) hp hn (hI hw) ?_ ?_ ?_ ?_ (fun h => absurd c1 h) (fun h => absurd h (by omega)) (fun h => absurd h (by omega)) (ha.tr (agF.sI (by decide))) (mS_3 hT hp) k)
      · rw [pw_oth (by decide)]; exact h5
      · rw [pw_oth (by decide)]; exact h4
      · rw [pw_oth (by decide)]; exact h7
      · rw [pw_same, (mS_3 hT hp).mpr c1]
  | succ m ih =>
    intro x w e hw ha h5 h4 h7 h9
    have hl : cL T n (tQ T n p + x) = true := rn_in (n - tQ T n p) (tQ T n p) _ (by omega) (by unfold tL at e; omega)
    have hb := of_decide_eq_true hl
    have q : pX10_isLetter (hre T n (tQ T n p + x)) := (hre_L hT).mpr hl
    have here : ∀ {Q2 : Option Value → pw_W → Prop}, Q2 (some (.int (hre T n (tQ T n p + x)))) w → px_Call E (d + 1) 0 0 mX10_here [.ref 61, .int (nI x)] w Q2 := fun hq => tX10_here (T := T) (n := n) (a := tQ T n p) (x := x) hw hn (fun i hi => (ha.I (by decide) (by decide) i).trans (h0 i hi)) h5 h4 (by omega) rfl hq
    refine bX10_token_78 hw (here ?_)
    refine bX10_token_83 hw (fun z => absurd q z) (fun z => absurd q z) (fun _ z => ?_) (fun _ z => ?_)
    · have x8 : 8 ≤ x := by
        rcases Nat.lt_or_ge x 8 with h | h
        · exact absurd z (nI_ge (b := 8) h (by omega))
        · exact h
      refine bX10_token_113 hw ?_
      rw [← nI_succ]
      refine ih (x + 1) w (by omega) hw ha h5 h4 h7 ?_
      rw [h9, if_neg (by omega : ¬ x + 1 ≤ 8)]
      by_cases e8 : x ≤ 8
      · rw [if_pos e8, show x = 8 by omega]
      · rw [if_neg e8]
    · have x8 : x < 8 := by
        rcases Nat.lt_or_ge x 8 with h | h
        · exact h
        · exact absurd (nI_le (a := 8) h (by omega)) z
      refine here ?_
      refine bX10_token_108 hw (bX10_token_113 (hL hw) ?_)
      rw [← nI_succ]
      refine ih (x + 1) _ (by omega) (hL hw) (ha.tr (agF.sL (by decide))) h5 h4 h7 ?_
      have bnd : e256 (lw T (tQ T n p) x) < 2 ^ 55 := by
        have lr : lwr (lw T (tQ T n p) x) := fun c hc => by
          obtain ⟨i, i1, i2⟩ := lw_mem hc
          have h3 : cL T n (tQ T n p + i) = true := rn_in (n - tQ T n p) (tQ T n p) _ (by omega) (by unfold tL at e; omega)
          have := of_decide_eq_true h3
          rw [← i2]; exact this.2
        have b : (256 : Nat) ^ x ≤ 256 ^ 7 := Nat.pow_le_pow_right (by decide) (by omega)
        have c : (256 : Nat) ^ 7 = 2 * 2 ^ 55 := by decide
        rcases e256_lt x _ lw_len lr with a | a
        · omega
        · rw [a]; show 0 < 2 ^ 55; decide
      rw [pw_L_sL, if_pos ⟨rfl, rfl⟩, h9, if_pos (by omega), if_pos (by omega)]
      unfold hre
      rw [if_pos hb.1, l8 bnd (hT _ hb.1), lw_succ, e256_snoc]
theorem nV_step2 {a c : Nat} (h : 48 ≤ c) : (10 * nI a + nI c) - 48 = nI (a * 10 + (c - 48)) := by
  have e1 : 10 * nI a = nI (10 * a) := pk_mul 10 a
  have e2 : nI (10 * a + c) - 48 = nI (10 * a + c - 48) := pk_sub (b := 48) (by omega)
  rw [e1, nI_add, e2, show 10 * a + c - 48 = a * 10 + (c - 48) by omega]
theorem xM2 (hT : ∀ i, i < n → T i < 256) (hn : n ≤ 1600) (hp : p ≤ n) (h0 : ∀ i, i < n → pw_I w0 62 i = nI (T i)) (hnl : ¬ tQ T n p < tL T n p) (hlt : tQ T n p < tD T n p) (k : ∀ w', w'.1 = cs t → agF [] [4, 6, 7, 8, 9] w0 w' → MTk T n p w' → Q none w') :
    ∀ (m x : Nat) (w : pw_W), tQ T n p + x + m = tD T n p → w.1 = cs t → agF [] [4, 6, 7, 8, 9] w0 w → pw_I w 61 5 = nI n → pw_I w 61 4 = nI (tQ T n p) → pw_I w 61 7 = nI (tQ T n p) → pw_I w 61 8 = nI (nV T (tQ T n p) (if x ≤ 4 then x else 4)) → px_W E mX10_token (d + 2) 0 0 144 [.ref 61, .null, .int (nI x)] [] w Q := by
  have q2 := tD_le (T := T) hp
  intro m
  induction m with
  | zero =>
    intro x w e hw ha h5 h4 h7 h8
    have q : pX10_isDigit (hre T n (tQ T n p + x)) ↔ False := by
      rw [hre_D hT, show tQ T n p + x = tD T n p by omega, tD_end hp]
      exact ⟨fun z => (Bool.false_ne_true z).elim, fun z => z.elim⟩
    have here : ∀ {Q2 : Option Value → pw_W → Prop}, Q2 (some (.int (hre T n (tQ T n p + x)))) w → px_Call E (d + 1) 0 0 mX10_here [.ref 61, .int (nI x)] w Q2 := fun hq => tX10_here (T := T) (n := n) (a := tQ T n p) (x := x) hw hn (fun i hi => (ha.I (by decide) (by decide) i).trans (h0 i hi)) h5 h4 (by omega) rfl hq
    obtain ⟨r1, r2, r3⟩ := tk_d hnl hlt
    have ew : tD T n p - tQ T n p = x := by omega
    have bad : tC T n p = 1 → px_W E mX10_token (d + 2) 0 0 203 [.ref 61, .null, .int (nI x)] [.ref 61] w Q := fun c1 => by
      refine bX10_token_203 hw (bX10_token_208 hw (xM_end (p := p) hp hn (hI hw) ?_ ?_ ?_ ?_ (fun h => absurd c1 h) (fun h => absurd h (by omega)) (fun h => absurd h (by omega)) (ha.tr (agF.sI (by decide))) (mS_3 hT hp) k))
      · rw [pw_oth (by decide)]; exact h5
      · rw [pw_oth (by decide)]; exact h4
      · rw [pw_oth (by decide)]; exact h7
      · rw [pw_same, (mS_3 hT hp).mpr c1]
    refine bX10_token_144 hw (here ?_)
    refine bX10_token_149 hw (fun _ z => ?_) (fun _ z => ?_) (fun z => (q.mp z).elim) (fun z => (q.mp z).elim)
    · refine bad ?_
      rw [r2, if_pos]
      left
      rcases Nat.lt_or_ge 4 x with h | h
      · omega
      · exact absurd z (nI_nlt (a := 4) h (by omega))
    · have x4 : ¬ 4 < x := fun h => z (nI_lt (a := 4) h (by omega))
      refine here ?_
      refine bX10_token_197 hw (fun z => ?_) (fun z => ?_)
      · have zl : ¬ cL T n (tD T n p) = true := fun h => z ((hre_L hT).mpr (by rw [show tQ T n p + x = tD T n p by omega]; exact h))
        have c2 : tC T n p = 2 := by rw [r2, if_neg (fun h => h.elim (by omega) zl)]
        refine bX10_token_208 hw (xM_end (p := p) hp hn (hI hw) ?_ ?_ ?_ ?_ (fun _ => by rw [r1]; omega) (fun _ => ?_) (fun h => absurd h (by omega)) (ha.tr (agF.sI (by decide))) (mS_3 hT hp) k)
        · rw [pw_oth (by decide)]; exact h5
        · rw [pw_oth (by decide)]; exact h4
        · rw [pw_oth (by decide)]; exact h7
        · rw [pw_same]; unfold mS; rw [c2]; rfl
        · rw [pw_oth (by decide), h8, if_pos (by omega), r3, ew]
      · refine bad ?_
        rw [r2, if_pos]
        right
        have := (hre_L hT).mp z
        rw [show tQ T n p + x = tD T n p by omega] at this
        exact this
  | succ m ih =>
    intro x w e hw ha h5 h4 h7 h8
    have hl : cD T n (tQ T n p + x) = true := rn_in (n - tQ T n p) (tQ T n p) _ (by omega) (by unfold tD at e; omega)
    have hb := of_decide_eq_true hl
    have q : pX10_isDigit (hre T n (tQ T n p + x)) := (hre_D hT).mpr hl
    have here : ∀ {Q2 : Option Value → pw_W → Prop}, Q2 (some (.int (hre T n (tQ T n p + x)))) w → px_Call E (d + 1) 0 0 mX10_here [.ref 61, .int (nI x)] w Q2 := fun hq => tX10_here (T := T) (n := n) (a := tQ T n p) (x := x) hw hn (fun i hi => (ha.I (by decide) (by decide) i).trans (h0 i hi)) h5 h4 (by omega) rfl hq
    refine bX10_token_144 hw (here ?_)
    refine bX10_token_149 hw (fun z => absurd q z) (fun z => absurd q z) (fun _ z => ?_) (fun _ z => ?_)
    · have x4 : 4 ≤ x := by
        rcases Nat.lt_or_ge x 4 with h | h
        · exact absurd z (nI_ge (b := 4) h (by omega))
        · exact h
      refine bX10_token_180 hw ?_
      rw [← nI_succ]
      refine ih (x + 1) w (by omega) hw ha h5 h4 h7 ?_
      rw [h8, if_neg (by omega : ¬ x + 1 ≤ 4)]
      by_cases e8 : x ≤ 4
      · rw [if_pos e8, show x = 4 by omega]
      · rw [if_neg e8]
    · have x4 : x < 4 := by
        rcases Nat.lt_or_ge x 4 with h | h
        · exact h
        · exact absurd (nI_le (a := 4) h (by omega)) z
      refine here ?_
      refine bX10_token_173 hw (bX10_token_180 (hI hw) ?_)
      rw [← nI_succ]
      refine ih (x + 1) _ (by omega) (hI hw) (ha.tr (agF.sI (by decide))) ?_ ?_ ?_ ?_
      · rw [pw_oth (by decide)]; exact h5
      · rw [pw_oth (by decide)]; exact h4
      · rw [pw_oth (by decide)]; exact h7
      · rw [pw_same, h8, if_pos (by omega), if_pos (by omega)]
        unfold hre
        rw [if_pos hb.1, nV_step2 (by omega), nV]
theorem xM0 (hT : ∀ i, i < n → T i < 256) (hn : n ≤ 1600) (hp : p ≤ n) (h0 : ∀ i, i < n → pw_I w0 62 i = nI (T i)) (k : ∀ w', w'.1 = cs t → agF [] [4, 6, 7, 8, 9] w0 w' → pw_I w' 61 5 = nI n → pw_I w' 61 4 = nI (tQ T n p) → pw_I w' 61 7 = nI (tQ T n p) → px_W E mX10_token (d + 2) 0 0 46 [.ref 61, .null, .null] [.int (hre T n (tQ T n p))] w' Q) :
    ∀ (m q : Nat) (w : pw_W), q + m = tQ T n p → p ≤ q → w.1 = cs t → agF [] [4, 6, 7, 8, 9] w0 w → pw_I w 61 5 = nI n → pw_I w 61 4 = nI q → px_W E mX10_token (d + 2) 0 0 0 [.ref 61, .null, .null] [] w Q := by
  have q1 := tQ_le (T := T) hp
  intro m
  induction m with
  | zero =>
    intro q w e hq hw ha h5 h4
    have hqq : q = tQ T n p := by omega
    subst hqq
    have nb : ¬ (hre T n (tQ T n p) = 32 ∨ hre T n (tQ T n p) = 10) := fun z => by
      have := (hre_B hT).mp z
      rw [tQ_end hp] at this
      cases this
    have here : ∀ {w2 : pw_W} {Q2 : Option Value → pw_W → Prop}, w2.1 = cs t → agF [] [4, 6, 7, 8, 9] w0 w2 → pw_I w2 61 5 = nI n → pw_I w2 61 4 = nI (tQ T n p) → Q2 (some (.int (hre T n (tQ T n p)))) w2 → px_Call E (d + 1) 0 0 mX10_here [.ref 61, .int 0] w2 Q2 := fun a1 a2 a3 a4 hq => tX10_here (T := T) (n := n) (a := tQ T n p) (x := 0) a1 hn (fun i hi => (a2.I (by decide) (by decide) i).trans (h0 i hi)) a3 a4 q1.2 rfl hq
    refine bX10_token_0 hw (here hw ha h5 h4 ?_)
    refine bX10_token_5 hw (fun z => absurd (Or.inl z) nb) (fun _ => here hw ha h5 h4 ?_)
    have g : agF [] [4, 6, 7, 8, 9] w0 (pw_sI w 61 7 (pw_I w 61 4)) := ha.tr (agF.sI (by decide))
    refine bX10_token_15 hw (fun _ => ?_) (fun z => absurd (Or.inr z) nb)
    refine here (hI hw) g (by rw [pw_oth (by decide)]; exact h5) (by rw [pw_oth (by decide)]; exact h4) ?_
    refine k _ (hI hw) g ?_ ?_ ?_
    · rw [pw_oth (by decide)]; exact h5
    · rw [pw_oth (by decide)]; exact h4
    · rw [pw_same]; exact h4
  | succ m ih =>
    intro q w e hq hw ha h5 h4
    have hb : cB T n q = true := rn_in (n - p) p q hq (by unfold tQ at e; omega)
    have hb2 := (hre_B hT).mpr hb
    have here : ∀ {Q2 : Option Value → pw_W → Prop}, Q2 (some (.int (hre T n q))) w → px_Call E (d + 1) 0 0 mX10_here [.ref 61, .int 0] w Q2 := fun hq => tX10_here (T := T) (n := n) (a := q) (x := 0) hw hn (fun i hi => (ha.I (by decide) (by decide) i).trans (h0 i hi)) h5 h4 (by omega) rfl hq
    have go : px_W E mX10_token (d + 2) 0 0 20 [.ref 61, .null, .null] [] w Q := by
      refine bX10_token_20 hw ?_
      refine ih (q + 1) _ (by omega) (by omega) (hI hw) (ha.tr (agF.sI (by decide))) ?_ ?_
      · rw [pw_oth (by decide)]; exact h5
      · rw [pw_same, h4, nI_succ]
    refine bX10_token_0 hw (here ?_)
    refine bX10_token_5 hw (fun _ => go) (fun z => here ?_)
    exact bX10_token_15 hw (fun z2 => absurd hb2 (fun h => h.elim z z2)) (fun _ => go)
theorem tX10_token (hw : w.1 = cs t) (hT : ∀ i, i < n → T i < 256) (hn : n ≤ 1600) (hp : p ≤ n) (h0 : ∀ i, i < n → pw_I w 62 i = nI (T i)) (h5 : pw_I w 61 5 = nI n) (h4 : pw_I w 61 4 = nI p)
    (k : ∀ w', w'.1 = cs t → agF [] [4, 6, 7, 8, 9] w w' → MTk T n p w' → Q none w') : px_Call E (d + 2) 0 0 mX10_token [.ref 61] w Q := by
  have q1 := tQ_le (T := T) hp
  have q2 := tL_le (T := T) hp
  have q3 := tD_le (T := T) hp
  refine px_enter (k := 2) (by decide) (Nat.le_of_ble_eq_true rfl) rfl (px_forget (ls' := [.ref 61, .null, .null]) ?_ ⟨Or.inr rfl, Or.inl rfl, Or.inl rfl, trivial⟩)
  refine xM0 (w0 := w) hT hn hp h0 (fun w1 hw1 a1 b5 b4 b7 => ?_) (tQ T n p - p) p w (by omega) (Nat.le_refl _) hw agF.rf h5 h4
  have A : ∀ S9 : pw_W, S9 = pw_sI (pw_sL w1 61 9 0) 61 8 0 → S9.1 = cs t ∧ agF [] [4, 6, 7, 8, 9] w S9 ∧ pw_I S9 61 5 = nI n ∧ pw_I S9 61 4 = nI (tQ T n p) ∧ pw_I S9 61 7 = nI (tQ T n p) ∧ pw_I S9 61 8 = 0 ∧ pw_L S9 61 9 = 0 := fun S9 e => by
    subst e
    refine ⟨hI (hL hw1), a1.tr ((agF.sL (by decide)).tr (agF.sI (by decide))), ?_, ?_, ?_, pw_same, ?_⟩
    · rw [pw_oth (by decide), pw_I_L]; exact b5
    · rw [pw_oth (by decide), pw_I_L]; exact b4
    · rw [pw_oth (by decide), pw_I_L]; exact b7
    · rw [pw_L_I, pw_L_sL, if_pos ⟨rfl, rfl⟩]
  obtain ⟨g1, g2, g5, g4, g7, g8, g9⟩ := A _ rfl
  by_cases hlt : tQ T n p < n
  · have hh : hre T n (tQ T n p) = nI (T (tQ T n p)) := if_pos hlt
    have t9 := hT _ hlt
    have sgn : ∀ (v : Int32), ¬ tQ T n p < tL T n p → ¬ tQ T n p < tD T n p → mS T n p = v → px_W E mX10_token (d + 2) 0 0 229 [.ref 61, .null, .int 1] [.int v, .ref 61] (pw_sI (pw_sL w1 61 9 0) 61 8 0) Q := fun v e1 e2 hv => by
      obtain ⟨r1, r2, r3⟩ := tk_s e1 e2 (by omega)
      refine bX10_token_229 g1 (xM_end (p := p) (x := 1) hp hn (hI g1) ?_ ?_ ?_ ?_ (fun _ => r1) (fun h => ?_) (fun h => ?_) (g2.tr (agF.sI (by decide))) (mS_3 hT hp) k)
      · rw [pw_oth (by decide)]; exact g5
      · rw [pw_oth (by decide)]; exact g4
      · rw [pw_oth (by decide)]; exact g7
      · rw [pw_same, hv]
      · rw [r2] at h; split at h <;> omega
      · rw [r2] at h; split at h <;> omega
    have nl : ¬ pX10_isLetter (hre T n (tQ T n p)) → ¬ tQ T n p < tL T n p := fun z h => z ((hre_L hT).mpr (rn_in (n - tQ T n p) (tQ T n p) _ (Nat.le_refl _) h))
    have nd : ¬ pX10_isDigit (hre T n (tQ T n p)) → ¬ tQ T n p < tD T n p := fun z h => z ((hre_D hT).mpr (rn_in (n - tQ T n p) (tQ T n p) _ (Nat.le_refl _) h))
    refine bX10_token_46 hw1 (fun _ z1 z2 z3 => ?_) (fun _ z1 z2 z3 => ?_) (fun _ z1 z2 => ?_) (fun _ z1 => ?_) (fun z => absurd (by rw [hh]; exact nI_le (a := 0) (by omega) (by omega)) z)
    · obtain ⟨r1, r2, r3⟩ := tk_s (nl z1) (nd z2) (by omega)
      rw [hh, sg_M t9] at z3
      exact sgn 3 (nl z1) (nd z2) ((mS_3 hT hp).mpr (by rw [r2, if_neg z3]))
    · obtain ⟨r1, r2, r3⟩ := tk_s (nl z1) (nd z2) (by omega)
      rw [hh] at z3 ⊢
      have z4 := (sg_M t9).mp z3
      refine sgn _ (nl z1) (nd z2) ?_
      unfold mS
      rw [r2, if_pos z4, r3]
      rfl
    · have e2 : tQ T n p < tD T n p := by
        rcases Nat.lt_or_ge (tQ T n p) (tD T n p) with h | h
        · exact h
        · have := tD_end (T := T) hp
          rw [show tD T n p = tQ T n p by omega, (hre_D hT).mp z2] at this
          cases this
      exact xM2 (w0 := w) hT hn hp h0 (nl z1) e2 k (tD T n p - tQ T n p) 0 _ (by omega) g1 g2 g5 g4 g7 (by rw [g8]; rfl)
    · have e2 : tQ T n p < tL T n p := by
        rcases Nat.lt_or_ge (tQ T n p) (tL T n p) with h | h
        · exact h
        · have := tL_end (T := T) hp
          rw [show tL T n p = tQ T n p by omega, (hre_L hT).mp z1] at this
          cases this
      exact xM1 (w0 := w) hT hn hp h0 e2 k (tL T n p - tQ T n p) 0 _ (by omega) g1 g2 g5 g4 g7 (by rw [g9]; rfl)
  · have hh : hre T n (tQ T n p) = -1 := if_neg hlt
    have e1 : ¬ tQ T n p < tL T n p := by omega
    have e2 : ¬ tQ T n p < tD T n p := by omega
    obtain ⟨r1, r2⟩ := tk_e e1 e2 (by omega)
    have nn : ¬ (0 : Int32) ≤ hre T n (tQ T n p) := by rw [hh]; decide
    refine bX10_token_46 hw1 (fun z => absurd z nn) (fun z => absurd z nn) (fun z => absurd z nn) (fun z => absurd z nn) (fun _ => ?_)
    refine xM_end (p := p) (x := 0) hp hn (hI g1) ?_ ?_ ?_ ?_ (fun _ => r1) (fun h => ?_) (fun h => ?_) (g2.tr (agF.sI (by decide))) (mS_3 hT hp) k
    · rw [pw_oth (by decide)]; exact g5
    · rw [pw_oth (by decide)]; exact g4
    · rw [pw_oth (by decide)]; exact g7
    · rw [pw_same]; unfold mS; rw [r2]; rfl
    · rw [r2] at h; omega
    · rw [r2] at h; omega
end MSC
