/-! the class: manners, duels, peace -/
/-- since when nobody has got firmer -/
def aMan (h : aH) (ro : Nat → Nat) : Nat → Nat → Nat → aS → Int32
  | 0, _, _, _ => -1
  | j + 1, i, since, s =>
    if i - (if aSum (sF (aDay h ro false s)) (aNp h) = aSum (sF s) (aNp h) then since else i) = 7 then nI (if aSum (sF (aDay h ro false s)) (aNp h) = aSum (sF s) (aNp h) then since else i)
    else aMan h ro j (i + 1) (if aSum (sF (aDay h ro false s)) (aNp h) = aSum (sF s) (aNp h) then since else i) (aDay h ro false s)
def aWo (h : aH) (s : aS) (p q wp wq : Nat) : Nat := aEv h (min 30 (sF s p + wp * 5)) (min 30 (sF s q + wq * 5)) (sL s p) (sD s) + wp
abbrev aRst (h : aH) (s : aS) (i f1 f2 : Nat) : Prop := aWo h s (aFi h i) (aSe h i) f1 f2 ≤ aWo h s (aFi h i) (aSe h i) (1 - f1) f2 ∧ aWo h s (aSe h i) (aFi h i) f2 f1 ≤ aWo h s (aSe h i) (aFi h i) (1 - f2) f1
def aPcK (n : Nat) : Nat → Nat
  | 0 => 0
  | k + 1 => aPcK n k + n / 2 ^ k % 2
def aPc (n : Nat) : Nat := aPcK n 9
theorem bc512 : ∀ n, n < 512 → hJ6_bitCount_0f7a4 (nI n) = nI (aPc n) := by decide +kernel
theorem aPc_le : ∀ n, n < 512 → aPc n ≤ 9 := by decide +kernel
/-- a set of MEETINGS that keeps peace -/
def aPeP (h : aH) (s : aS) (n q : Nat) : Prop := q &&& sB s = 0 ∧ aTill h (aRo h) (2 ^ aNp h - 1) n 0 (sSetB s (sB s ||| q)) = -1
def aPeL (h : aH) (s : aS) (n r : Nat) : Prop := r < 2 ^ aNm h ∧ aPeP h s n r ∧ ∀ q, q < 2 ^ aNm h → aPeP h s n q → aPc r < aPc q ∨ (aPc r = aPc q ∧ r ≤ q)
def aPeA (h : aH) (s : aS) (n : Nat) (v : Int32) : Prop := (∃ r, v = nI r ∧ aPeL h s n r) ∨ (v = -1 ∧ ∀ q, q < 2 ^ aNm h → ¬ aPeP h s n q)
theorem aPeA_uniq {h : aH} {s : aS} {n : Nat} {v v' : Int32} (h1 : aPeA h s n v) (h2 : aPeA h s n v') : v = v' := by
  rcases h1 with ⟨r, rfl, l1, l2, l3⟩ | ⟨rfl, h1⟩
  · rcases h2 with ⟨r', rfl, m1, m2, m3⟩ | ⟨rfl, h2⟩
    · have := l3 r' m1 m2
      have := m3 r l1 l2
      rw [show r = r' by omega]
    · exact absurd l2 (h2 r l1)
  · rcases h2 with ⟨r', rfl, m1, m2, m3⟩ | ⟨rfl, h2⟩
    · exact absurd m2 (h1 r' m1)
    · rfl
section XO
variable {E : px_E} {d : Nat} {w : pw_W} {Q : Option Value → pw_W → Prop} {t : ct_T} {h : aH} {s : aS} {r0 r1 : Nat}
theorem tX2_allFirm (hw : w.1 = cs t) (hr0 : is_Hamlet r0) (hr1 : is_State r1) (hH : RXH h w r0) (hS : RXS h s w r1) (hh : aWH h) (k : Q (some (.int (nI (aSum (sF s) (aNp h))))) w) : px_Call E (d + 1) 0 0 mX2_allFirm [.ref r0, .ref r1] w Q := by
  have np := hh.1
  refine eX2_allFirm hw hr0 hr1 ?_
  have key : ∀ i, i ≤ aNp h → px_W E mX2_allFirm (d + 1) 0 0 4 [.ref r0, .ref r1, .int (nI (aSum (sF s) i)), .int (nI i)] [] w Q := by
    refine za_up (aNp h) _ (fun i hi ih => ?_)
    refine bX2_allFirm_4 hw hr0 hr1 (fun q => ?_) (fun q => ?_) <;> rw [hH.1.1] at q
    · have : i = aNp h := by have := za_le (by omega) (by omega) q; omega
      subst this
      exact k
    · have hlt : i < aNp h := za_nle (by omega) (by omega) q
      refine bX2_allFirm_12 hw hr0 hr1 i rfl (by omega) ?_
      rw [hS.2.1 i hlt, nI_add, nI_1]
      exact ih hlt
  exact key 0 (Nat.zero_le _)
theorem aSumF_lt (hh : aWH h) (hs : aWS h s) : aSum (sF s) (aNp h) ≤ 180 := by
  have h1 := aSum_le (f := sF s) (n := aNp h) (c := 30) (fun i hi => (hs.1 i hi).1)
  have h2 := hh.1
  omega
theorem tX4_daysTillSettled (hw : w.1 = cs t) (hr0 : is_Hamlet r0) (hH : RXH h w r0) (hS : RXS h s w 35) (hh : aWH h) (hs : aWS h s) (hn : sD s + 67 < 5000) (k : ∀ w', ag [42, 43, 44, r0 + 12] w w' → Q (some (.int (aMan h (aRo h) 67 1 0 s))) w') :
    px_Call E (d + 5) 0 0 mX4_daysTillSettled [.ref 41, .ref r0, .ref 35, .int 60] w Q := by
  have np := hh.1
  refine eX4_daysTillSettled hw hr0 (tX8_copyFrom hw np hS (fun w1 a1 S1 => ?_))
  have hw1 := a1.1.trans hw
  have A1 : ag [42, 43, 44, r0 + 12] w w1 := a1.mono (by simp)
  refine bX4_daysTillSettled_8 (r2 := 35) hw1 hr0 (tX2_allFirm hw1 hr0 st42 (hH.ag A1 (fun k hk => xd_O hr0 hk)) S1 hh ?_)
  refine bX4_daysTillSettled_19 (r2 := 35) hw1 hr0 ?_
  have key : ∀ i, i ≤ 67 → ∀ w1 since, since ≤ i → ag [42, 43, 44, r0 + 12] w w1 → RXS h (aDays h (aRo h) false i s) w1 42 → (∀ w', ag [42, 43, 44, r0 + 12] w w' → Q (some (.int (aMan h (aRo h) (67 - i) (i + 1) since (aDays h (aRo h) false i s)))) w') → px_W E mX4_daysTillSettled (d + 5) 0 0 24 [.ref 41, .ref r0, .null, .int 60, .int (nI since), .int (nI (aSum (sF (aDays h (aRo h) false i s)) (aNp h))), .int (nI (i + 1)), .null] [] w1 Q := by
    refine za_up 67 _ (fun i hi ih => ?_)
    intro w1 since hsi a1 S1 kk
    have hw1 := a1.1.trans hw
    have H1 := hH.ag a1 (fun k hk => xd_O hr0 hk)
    obtain ⟨W1, D1⟩ := aWS.days (ro := aRo h) (fl := false) hh hs i (by omega)
    refine bX4_daysTillSettled_24 (r2 := 35) hw1 hr0 (fun q => ?_) (fun q => ?_)
    · have : i = 67 := by have := za_lt (a := 67) (by omega) (by omega) q; omega
      subst this
      have := kk w1 a1
      rw [Nat.sub_self] at this
      exact this
    · have hlt : i < 67 := by have := za_nlt (a := 67) (by omega) (by omega) q; omega
      have W2 := W1.day (ro := aRo h) (fl := false) hh (by omega)
      refine tX2_passDay (fl := false) hw1 hr0 st42 hr0.sh9 (xr9 hr0) H1 S1 H1.ro hh W1 hh.ro (fun w2 a2 S2 => ?_)
      have hw2 := a2.1.trans hw1
      refine bX4_daysTillSettled_46 (r2 := 35) hw2 hr0 (tX2_allFirm hw2 hr0 st42 (H1.ag a2 (fun k hk => xd_O hr0 hk)) S2 hh ?_)
      have l1 := aSumF_lt hh W1
      have l2 := aSumF_lt hh W2
      have fin : ∀ sn, sn ≤ i + 1 → (if aSum (sF (aDay h (aRo h) false (aDays h (aRo h) false i s))) (aNp h) = aSum (sF (aDays h (aRo h) false i s)) (aNp h) then since else i + 1) = sn → px_W E mX4_daysTillSettled (d + 5) 0 0 72 [.ref 41, .ref r0, .null, .int 60, .int (nI sn), .int (nI (aSum (sF (aDays h (aRo h) false (i + 1) s)) (aNp h))), .int (nI (i + 1)), .null] [] w2 Q := by
        intro sn hsn e
        refine bX4_daysTillSettled_72 (r2 := 35) hw2 hr0 (fun z => ?_) (fun z => ?_) <;> rw [pk_sub hsn] at z
        · have z : i + 1 - sn ≠ 7 := za_ne (b := 7) (by omega) (by omega) z
          rw [nI_1]
          refine ih hlt w2 sn hsn (a1.tr a2) S2 (fun w' a' => ?_)
          have := kk w' a'
          rw [show 67 - i = (67 - (i + 1)) + 1 by omega] at this
          unfold aMan at this
          rw [e, if_neg z] at this
          exact this
        · have z : i + 1 - sn = 7 := za_eq (b := 7) (by omega) (by omega) z
          have := kk w2 (a1.tr a2)
          rw [show 67 - i = (67 - (i + 1)) + 1 by omega] at this
          unfold aMan at this
          rw [e, if_pos z] at this
          exact this
      refine bX4_daysTillSettled_55 (r2 := 35) hw2 hr0 (fun z => ?_) (fun z => ?_)
      · rw [← z]
        exact fin since (by omega) (if_pos (za_eq (by omega) (by omega) z))
      · exact fin (i + 1) (by omega) (if_neg (za_ne (by omega) (by omega) z))
  exact key 0 (Nat.zero_le _) w1 0 (Nat.le_refl _) A1 S1 (fun w' a' => k w' a')
theorem tX4_worth {p q wp wq : Nat} (hw : w.1 = cs t) (hr0 : is_Hamlet r0) (hH : RXH h w r0) (hS : RXS h s w 35) (hh : aWH h) (hs : aWS h s) (hp : p < aNp h) (hq : q < aNp h) (h1 : wp ≤ 1) (h2 : wq ≤ 1) (k : ∀ w', ag [r0 + 12] w w' → Q (some (.int (-nI (aWo h s p q wp wq)))) w') :
    px_Call E (d + 3) 0 0 mX4_worth [.ref r0, .ref 35, .int (nI p), .int (nI q), .int (nI wp), .int (nI wq)] w Q := by
  have np := hh.1
  have q13 := hh.2.2.2.2.2.2.2.2.2.2.2.2
  have g1 := (hs.1 p hp).1
  have g2 := (hs.1 q hq).1
  refine eX4_worth hw hr0 st35 p rfl (by omega) q rfl (by omega) ?_
  have e1 : js_min 30 (pw_I w (35 + 2) p + nI wp * 5) = nI (min 30 (sF s p + wp * 5)) := by
    rw [hS.2.1 p hp, show (5 : Int32) = nI 5 from rfl, pk_mul, nI_add]; exact za_min (a := 30) (by decide) (by omega)
  have e2 : js_min 30 (pw_I w (35 + 2) q + nI wq * 5) = nI (min 30 (sF s q + wq * 5)) := by
    rw [hS.2.1 q hq, show (5 : Int32) = nI 5 from rfl, pk_mul, nI_add]; exact za_min (a := 30) (by decide) (by omega)
  rw [e1, e2, hS.1 p hp, hS.2.2.2.1]
  refine tX1_lumpsLeft hw hr0.is10 hH.2.2.2.2.2.1 q13.2 hH.2.2.2.2.2.2.2 q13.1 _ _ _ _ (fun w1 a1 => ?_)
  refine bX4_worth_57 (a1.1.trans hw) hr0 st35 ?_
  have e3 : -nI (fClamp ((fRun (nI (min 30 (sF s p + wp * 5))) (nI (min 30 (sF s q + wq * 5))) (nI (sL s p)) (nI (sD s)) (aPr h) []).getD 0 0)) - nI wp = -nI (aWo h s p q wp wq) := by
    unfold aWo aEv fEv
    rw [← nI_add, Int32.neg_add, Int32.sub_eq_add_neg]
  rw [e3]
  exact k w1 a1
theorem neg_lt {a b : Nat} (ha : a < 2 ^ 30) (hb : b < 2 ^ 30) : -nI a < -nI b ↔ b < a := by
  have e : -nI a < -nI b ↔ nI b < nI a := by
    simp only [Int32.lt_iff_toInt_lt, Int32.toInt_neg]
    rw [nI_toInt (by omega), nI_toInt (by omega)]
    simp only [Int.bmod]
    omega
  rw [e]
  exact nI_ltI (by omega) (by omega)
theorem aWo_le {p q wp wq : Nat} (h1 : wp ≤ 1) : aWo h s p q wp wq ≤ 21 := by
  have : aEv h (min 30 (sF s p + wp * 5)) (min 30 (sF s q + wq * 5)) (sL s p) (sD s) ≤ 20 := fEv_le _ _ _ _ _
  unfold aWo
  omega
theorem tX4_isRest {i f1 f2 : Nat} (hw : w.1 = cs t) (hr0 : is_Hamlet r0) (hH : RXH h w r0) (hS : RXS h s w 35) (hh : aWH h) (hs : aWS h s) (hi : i < aNm h) (h1 : f1 ≤ 1) (h2 : f2 ≤ 1) (k : ∀ w', ag [r0 + 12] w w' → Q (some (.int (jb (aRst h s i f1 f2)))) w') :
    px_Call E (d + 4) 0 0 mX4_isRest [.ref 41, .ref r0, .ref 35, .int (nI i), .int (nI f1), .int (nI f2)] w Q := by
  have nm := hh.2.1
  obtain ⟨m1, m2, -, -⟩ := hh.2.2.2.2.2.2.2.2.1 i hi
  obtain ⟨e1, e2, -⟩ := hH.2.2.1 i hi
  obtain ⟨x1, x2, x3⟩ := xd_S hr0 st35
  refine eX4_isRest hw hr0 i rfl (by omega) ?_
  rw [e1, e2]
  have s1 : (1 : Int32) - nI f1 = nI (1 - f1) := pk_sub (a := 1) h1
  have s2 : (1 : Int32) - nI f2 = nI (1 - f2) := pk_sub (a := 1) h2
  have b1 := aWo_le (h := h) (s := s) (p := aFi h i) (q := aSe h i) (wp := f1) (wq := f2) h1
  have b2 := aWo_le (h := h) (s := s) (p := aFi h i) (q := aSe h i) (wp := 1 - f1) (wq := f2) (by omega)
  have b3 := aWo_le (h := h) (s := s) (p := aSe h i) (q := aFi h i) (wp := f2) (wq := f1) h2
  have b4 := aWo_le (h := h) (s := s) (p := aSe h i) (q := aFi h i) (wp := 1 - f2) (wq := f1) (by omega)
  refine tX4_worth hw hr0 hH hS hh hs m1 m2 h1 h2 (fun w1 a1 => ?_)
  have hw1 := a1.1.trans hw
  have H1 := hH.ag a1 (fun k hk => xd_12 hk)
  have S1 := hS.ag a1 x1 x2 x3
  refine bX4_isRest_29 hw1 hr0 ?_
  rw [s1]
  refine tX4_worth hw1 hr0 H1 S1 hh hs m1 m2 (by omega) h2 (fun w2 a2 => ?_)
  have hw2 := a2.1.trans hw1
  have H2 := H1.ag a2 (fun k hk => xd_12 hk)
  have S2 := S1.ag a2 x1 x2 x3
  refine bX4_isRest_44 hw2 hr0 (fun z => ?_) (fun z => ?_) <;> rw [neg_lt (by omega) (by omega)] at z
  · refine bX4_isRest_82 (r1 := r0) (r2 := 35) hw2 hr0 (bX4_isRest_83 (r1 := r0) (r2 := 35) hw2 hr0 (Or.inl rfl) ?_)
    have := k w2 (a1.tr a2)
    rw [jb_f (fun y => by have := y.1; omega)] at this
    exact this
  refine tX4_worth hw2 hr0 H2 S2 hh hs m2 m1 h2 h1 (fun w3 a3 => ?_)
  have hw3 := a3.1.trans hw2
  have H3 := H2.ag a3 (fun k hk => xd_12 hk)
  have S3 := S2.ag a3 x1 x2 x3
  refine bX4_isRest_60 hw3 hr0 ?_
  rw [s2]
  refine tX4_worth hw3 hr0 H3 S3 hh hs m2 m1 (by omega) h1 (fun w4 a4 => ?_)
  have hw4 := a4.1.trans hw3
  refine bX4_isRest_75 (r1 := r0) (r2 := 35) hw4 hr0 (fun z2 => ?_) (fun z2 => ?_) <;> rw [neg_lt (by omega) (by omega)] at z2
  · refine bX4_isRest_82 (r1 := r0) (r2 := 35) hw4 hr0 (bX4_isRest_83 (r1 := r0) (r2 := 35) hw4 hr0 (Or.inl rfl) ?_)
    have := k w4 ((a1.tr a2).tr (a3.tr a4))
    rw [jb_f (fun y => by have := y.2; omega)] at this
    exact this
  · refine bX4_isRest_83 (r1 := r0) (r2 := 35) hw4 hr0 (Or.inr rfl) ?_
    have := k w4 ((a1.tr a2).tr (a3.tr a4))
    rw [jb_t ⟨by omega, by omega⟩] at this
    exact this
theorem tX4_leastToForbid {n : Nat} (hw : w.1 = cs t) (hr0 : is_Hamlet r0) (hH : RXH h w r0) (hS : RXS h s w 35) (hh : aWH h) (hs : aWS h s) (hn : sD s + n < 5000) (k : ∀ w' v, ag [42, 43, 44, r0 + 12] w w' → aPeA h s n v → Q (some (.int v)) w') :
    px_Call E (d + 6) 0 0 mX4_leastToForbid [.ref 41, .ref r0, .ref 35, .int (nI n)] w Q := by
  have np := hh.1
  have nm := hh.2.1
  have m2 : 2 ^ aNm h ≤ 512 := Nat.pow_le_pow_right (n := 2) (j := 9) (by decide) nm
  obtain ⟨y1, y2, y3⟩ := xd_35 hr0
  have hB := hs.2.1
  refine eX4_leastToForbid hw hr0 st35 ?_
  have key : ∀ i, i ≤ aNm h + 1 → ∀ w1, ag [42, 43, 44, r0 + 12] w w1 → (∀ q, q < 2 ^ aNm h → aPc q < i → ¬ aPeP h s n q) → px_W E mX4_leastToForbid (d + 6) 0 0 3 [.ref 41, .ref r0, .ref 35, .int (nI n), .int (nI i), .null] [] w1 Q := by
    refine za_up _ _ (fun i hi ih => ?_)
    intro w1 a1 no1
    have hw1 := a1.1.trans hw
    refine bX4_leastToForbid_3 hw1 hr0 st35 (fun q => ?_) (fun q => ?_) <;> rw [(hH.ag a1 (fun k hk => xd_O hr0 hk)).1.2.1] at q
    · have : i = aNm h + 1 := by have := za_lt (by omega) (by omega) q; omega
      subst this
      refine k w1 _ a1 (Or.inr ⟨rfl, fun q hq => no1 q hq ?_⟩)
      have : ∀ m, m ≤ 9 → ∀ q, q < 2 ^ m → aPc q < m + 1 := by decide +kernel
      exact this _ nm q hq
    · have hlt : i < aNm h + 1 := by have := za_nlt (by omega) (by omega) q; omega
      have key2 : ∀ j, j ≤ 2 ^ aNm h → ∀ w1, ag [42, 43, 44, r0 + 12] w w1 → (∀ q, q < j → aPc q = i → ¬ aPeP h s n q) → px_W E mX4_leastToForbid (d + 6) 0 0 15 [.ref 41, .ref r0, .ref 35, .int (nI n), .int (nI i), .int (nI j)] [] w1 Q := by
        refine za_up _ _ (fun j hj ih2 => ?_)
        intro w1 a1 no2
        have hw1 := a1.1.trans hw
        have H1 := hH.ag a1 (fun k hk => xd_O hr0 hk)
        have S1 := hS.ag a1 y1 y2 y3
        have eb : js_shl 1 (pw_I w1 r0 4) = nI (2 ^ aNm h) := by rw [H1.1.2.1]; exact za_bit1 (by omega)
        have nxt : j < 2 ^ aNm h → ∀ w2, ag [42, 43, 44, r0 + 12] w w2 → ¬ (aPc j = i ∧ aPeP h s n j) → px_W E mX4_leastToForbid (d + 6) 0 0 85 [.ref 41, .ref r0, .ref 35, .int (nI n), .int (nI i), .int (nI j)] [] w2 Q := by
          intro jl w2 a2 no
          refine bX4_leastToForbid_85 (a2.1.trans hw) hr0 st35 ?_
          rw [nI_1]
          refine ih2 jl w2 a2 (fun q hq e y => ?_)
          by_cases z : q = j
          · subst z; exact no ⟨e, y⟩
          · exact no2 q (by omega) e y
        refine bX4_leastToForbid_15 hw1 hr0 st35 (fun q => ?_) (fun q z => ?_) (fun q z z2 => ?_) (fun q z z2 => ?_) <;> rw [eb] at q
        · have : j = 2 ^ aNm h := by have := za_le (by omega) (by omega) q; omega
          subst this
          rw [nI_1]
          refine ih hlt w1 a1 (fun q hq e y => ?_)
          by_cases z : aPc q = i
          · exact no2 q hq z y
          · exact no1 q hq (by omega) y
        · have jl : j < 2 ^ aNm h := za_nle (by omega) (by omega) q
          rw [bc512 j (by omega)] at z
          exact nxt jl w1 a1 (fun y => z (by rw [y.1]))
        · have jl : j < 2 ^ aNm h := za_nle (by omega) (by omega) q
          refine nxt jl w1 a1 (fun y => z2 ?_)
          rw [S1.2.2.1, za_and, y.2.1]
          rfl
        · have jl : j < 2 ^ aNm h := za_nle (by omega) (by omega) q
          have pj := aPc_le j (by omega)
          rw [bc512 j (by omega)] at z
          have z := za_eq (by omega) (by omega) z
          have al : j &&& sB s ≤ j := Nat.and_le_left
          rw [S1.2.2.1, za_and] at z2
          have z2 := za_eq (b := 0) (by omega) (by omega) z2
          refine tX8_copyFrom hw1 np S1 (fun w2 a2 S2 => ?_)
          have hw2 := a2.1.trans hw1
          have A3 : ag [42, 43, 44, r0 + 12] w (pw_sI w2 42 2 (pw_I w2 42 2 ||| nI j)) := (a1.tr (a2.mono (by simp))).tr (ag.sI (by simp))
          have H3 := hH.ag A3 (fun k hk => xd_O hr0 hk)
          have S3 : RXS h (sSetB s (sB s ||| j)) (pw_sI w2 42 2 (pw_I w2 42 2 ||| nI j)) 42 := S2.setB (by rw [S2.2.2.1, za_or])
          refine bX4_leastToForbid_54 hw2 hr0 st35 ?_
          have ea : hX2_allPeople (pw_sI w2 42 2 (pw_I w2 42 2 ||| nI j)) r0 = nI (2 ^ aNp h - 1) := by
            show js_shl 1 (pw_I (pw_sI w2 42 2 (pw_I w2 42 2 ||| nI j)) r0 0) - 1 = _
            rw [H3.1.1, za_bit1 (by omega)]
            exact pk_sub (b := 1) (Nat.one_le_two_pow)
          rw [ea]
          refine tX4_goOnTillAbed (hI hw2) hr0 H3 S3 hh (hs.setB (Nat.or_lt_two_pow (n := 9) hB (by omega))) hn (fun w4 a4 => ?_)
          refine bX4_leastToForbid_78 (a4.1.trans (hI hw2)) hr0 st35 (fun y => ?_) (fun y => ?_)
          · exact nxt jl w4 (A3.tr a4) (fun x => y x.2.2)
          · refine k w4 _ (A3.tr a4) (Or.inl ⟨j, rfl, jl, ⟨z2, y⟩, fun q hq e => ?_⟩)
            by_cases c1 : aPc q < i
            · exact absurd e (no1 q hq c1)
            · by_cases c2 : aPc q = i
              · by_cases c3 : q < j
                · exact absurd e (no2 q c3 c2)
                · right; omega
              · left; omega
      exact key2 0 (Nat.zero_le _) w1 a1 (fun q hq => absurd hq (Nat.not_lt_zero _))
  exact key 0 (Nat.zero_le _) w ag.rf (fun q _ hq => absurd hq (Nat.not_lt_zero _))
end XO
