/-! the class reads a meeting, and what is set once -/
def hM (h : aH) (a b k : Nat) : aH := (fun x => match x with
  | 0 => uN (h.1 0) 1 (aNm h + 1)
  | 4 => uN (h.1 4) (aNm h) a
  | 5 => uN (h.1 5) (aNm h) b
  | 6 => uN (h.1 6) (aNm h) k
  | x => h.1 x, h.2)
def dMee (D : DS) (a b k : Nat) : DS := (hM (dH D) a b k, dP D, dB D, dO D, dK D, dJ D, dF D)
def pMee (T : Nat → Nat) (n : Nat) (D : DS) (p : Nat) : PR (Nat × DS) :=
  if aNm (dH D) < 9 then pB (pOld T n (dP D) (aNp (dH D)) 0 (tE T n p)) (fun a => pB (pOld T n (dP D) (aNp (dH D)) (2 ^ a.2) a.1) (fun b => pB (pNb T n 5 0 6 b.1) (fun c => pB (pEn T n c.1) (fun z => .inr (z, dMee D a.2 b.2 c.2))))) else .inl (rfu T n p)
theorem RXH.addM {h : aH} {w : pw_W} {r a b k : Nat} (hH : RXH h w r) (h1 : pw_I w (r + 4) (aNm h) = nI a) (h2 : pw_I w (r + 5) (aNm h) = nI b) (h3 : pw_I w (r + 6) (aNm h) = nI k) : RXH (hM h a b k) (pw_sI w r 4 (nI (aNm h + 1))) r := by
  obtain ⟨⟨a0, a1, a2, a3, a4, a5⟩, b1, b2, b3, b4, b5, b6, b7⟩ := hH
  have o : ∀ a b, a ≠ r → pw_I (pw_sI w r 4 (nI (aNm h + 1))) a b = pw_I w a b := fun a b z => pw_oth (fun q _ => z q)
  refine ⟨⟨?_, pw_same, ?_, ?_, ?_, ?_⟩, fun i hi => ?_, fun i hi => ?_, fun i hi => ?_, fun b hb k hk => ?_, ?_, ?_, fun i hi => ?_⟩
  · rw [pw_oth (by omega)]; exact a0
  · rw [pw_oth (by omega)]; exact a2
  · rw [pw_oth (by omega)]; exact a3
  · rw [pw_oth (by omega)]; exact a4
  · rw [pw_oth (by omega)]; exact a5
  · rw [o _ _ (by omega), o _ _ (by omega), o _ _ (by omega)]; exact b1 i hi
  · rw [o _ _ (by omega), o _ _ (by omega), o _ _ (by omega)]
    have hi : i < aNm h + 1 := hi
    show pw_I w (r + 4) i = nI (uN (aFi h) (aNm h) a i) ∧ pw_I w (r + 5) i = nI (uN (aSe h) (aNm h) b i) ∧ pw_I w (r + 6) i = nI (uN (aWk h) (aNm h) k i)
    by_cases e : i = aNm h
    · rw [e, uN_s, uN_s, uN_s]; exact ⟨h1, h2, h3⟩
    · rw [uN_o e, uN_o e, uN_o e]; exact b2 i (by omega)
  · rw [o _ _ (by omega), o _ _ (by omega)]; exact b3 i hi
  · rw [o _ _ (by omega)]; exact b4 b hb k hk
  · rw [o _ _ (by omega)]; exact b5
  · rw [o _ _ (by omega)]; exact b6
  · rw [o _ _ (by omega)]; exact b7 i hi
section XPA
variable {E : px_E} {d : Nat} {w w0 : pw_W} {Q : Option Value → pw_W → Prop} {t : ct_T} {T : Nat → Nat} {n p : Nat} {D : DS}
theorem pOld_r {f : Nat → List Nat} {k x q a : Nat} (h : pOld T n f k x p = .inr (q, a)) : a < k ∧ x.testBit a = false := by
  unfold pOld at h
  split at h
  · split at h
    · cases h
    · rename_i h2
      split at h
      · cases h
      · rename_i h3
        cases h
        have := fnd_le (f := f) (l := tW T n p) k 0
        exact ⟨by omega, Bool.eq_false_iff.mpr h3⟩
  · cases h
theorem WD.dMee {a b k : Nat} (hD : WD D) (h9 : aNm (dH D) < 9) (ha : a < aNp (dH D)) (hb : b < aNp (dH D)) (hab : a ≠ b) (hk : k ≤ 6) : WD (dMee D a b k) := by
  obtain ⟨⟨x1, x2, x3, x4, x5, x6, x7, x8, x9, x10⟩, y2⟩ := hD
  refine ⟨⟨x1, by show aNm (dH D) + 1 ≤ 9; omega, x3, x4, x5, x6, x7, x8, fun i hi => ?_, x10⟩, y2⟩
  have hi : i < aNm (dH D) + 1 := hi
  show uN (aFi (dH D)) (aNm (dH D)) a i < aNp (dH D) ∧ uN (aSe (dH D)) (aNm (dH D)) b i < aNp (dH D) ∧ uN (aFi (dH D)) (aNm (dH D)) a i ≠ uN (aSe (dH D)) (aNm (dH D)) b i ∧ uN (aWk (dH D)) (aNm (dH D)) k i ≤ 6
  by_cases e : i = aNm (dH D)
  · rw [e, uN_s, uN_s, uN_s]; exact ⟨ha, hb, hab, hk⟩
  · rw [uN_o e, uN_o e, uN_o e]; exact x9 i (by omega)
theorem tX5_readMeeting (hS : XS0 t T n w0) (hD : WD D) (hF : dF D = 0) (hG : XG t T n p D w0 w) (k1 : ∀ q D', pMee T n D p = .inr (q, D') → ∀ w', XG t T n q D' w0 w' → Q (some (.int 1)) w') (k0 : ∀ e, pMee T n D p = .inl e → ∀ w', XBd t T n e w0 w' → Q (some (.int 0)) w') : px_Call E (d + 9) 0 0 mX5_readMeeting [.ref 16] w Q := by
  have ht := hS.2.1
  have hnm := hG.2.2.2.2.2.2.1.nm
  have n6 := hD.1.1
  have n9 := hD.1.2.1
  refine eX5_readMeeting hG.1 ht (fun z => ?_) (fun z => ?_) <;> rw [hnm] at z
  · have lt9 : aNm (dH D) < 9 := za_lt (b := 9) (by omega) (by decide) z
    have P0 : pMee T n D p = _ := if_pos lt9
    rw [hnm]
    refine tX5_adv hS hG (fun w1 g1 _ => bX5_readMeeting_26 g1.1 ht (tX5_old (taken := 0) rfl (by decide) hS hD g1 (fun q2 a h2 w2 g2 _ => ?_) (fun e he w2 b2 => ?_)))
    · have P1 := P0.trans (pB_r h2)
      have ha := (pOld_r h2).1
      refine bX5_readMeeting_31 g2.1 ht (fun _ => ?_) (fun z => absurd z (nI_mn (by omega)))
      have p64 : 2 ^ a < 64 := by
        have : (2 : Nat) ^ a ≤ 2 ^ 5 := Nat.pow_le_pow_right (by decide) (by omega)
        omega
      refine tX5_old (taken := 2 ^ a) (za_bit1 (by omega)) p64 hS hD g2 (fun q3 b h3 w3 g3 _ => ?_) (fun e he w3 b3 => ?_)
      · have P2 := P1.trans (pB_r h3)
        obtain ⟨hb, htb⟩ := pOld_r h3
        have hab : a ≠ b := fun e => by rw [e, Nat.testBit_two_pow_self] at htb; cases htb
        refine bX5_readMeeting_46 g3.1 ht (fun _ => ?_) (fun z => absurd z (nI_mn (by omega)))
        refine bX5_readMeeting_54 g3.1 ht _ rfl lt9 ?_
        have ST : ∀ {w9 : pw_W} {q c : Nat} {v : Int32}, XG t T n q D w0 w9 → 4 ≤ c → c ≤ 6 → XG t T n q D w0 (pw_sI w9 (t.2.1 + c) (aNm (dH D)) v) := fun g c1 c2 =>
          g.st ht (by omega) (RXD.st g.2.2.2.2.2.2.1 (by omega) (fun q => by omega) (fun _ => Nat.le_refl _) (fun q => by omega) (fun q => by omega) (by omega) (by omega)) rfl rfl rfl rfl rfl
        have g5 := ST (v := nI b) (ST (v := nI a) g3 (c := 4) (by decide) (by decide)) (c := 5) (by decide) (by decide)
        refine bX5_readMeeting_74 g5.1 ht (tX5_readNumberBehind (x := 5) (lo := 0) (hi := 6) rfl rfl rfl (by decide) (by decide) (by decide) hS hD g5 (fun q6 k h6 w6 g6 a6 => ?_) (fun e he w6 b6 => ?_))
        · have P3 := P2.trans (pB_r h6)
          have hk := (pNb_r h6).2
          refine bX5_readMeeting_90 g6.1 ht _ rfl lt9 ?_
          have g7 := ST (v := nI k) g6 (c := 6) (by decide) (by decide)
          have e0 : pw_I (pw_sI w6 (t.2.1 + 6) (aNm (dH D)) (nI k)) t.2.1 4 + 1 = nI (aNm (dH D) + 1) := by
            have : pw_I (pw_sI w6 (t.2.1 + 6) (aNm (dH D)) (nI k)) t.2.1 4 = nI (aNm (dH D)) := g7.2.2.2.2.2.2.1.nm
            rw [this, ← nI_succ]
          rw [e0]
          have rh : RXH (dH D) (pw_sI w6 (t.2.1 + 6) (aNm (dH D)) (nI k)) t.2.1 := by
            have r5 := g7.2.2.2.2.2.2.1
            rw [hF] at r5
            exact r5.to
          have nn4 := dX_ne ht (c := 4) (by decide)
          have nn5 := dX_ne ht (c := 5) (by decide)
          have g8 : XG t T n q6 (dMee D a b k) w0 (pw_sI (pw_sI w6 (t.2.1 + 6) (aNm (dH D)) (nI k)) t.2.1 4 (nI (aNm (dH D) + 1))) := by
            refine g7.st (c := 0) (D' := dMee D a b k) ht (by decide) ?_ rfl rfl rfl rfl rfl
            rw [show dF (dMee D a b k) = 0 from hF]
            refine RXD.of (rh.addM ?_ ?_ pw_same)
            · rw [pw_oth (by omega), a6.I (fun z => nn4.2.1 (List.mem_singleton.mp z)), pw_oth (by omega), pw_same]
            · rw [pw_oth (by omega), a6.I (fun z => nn5.2.1 (List.mem_singleton.mp z)), pw_same]
          refine bX5_readMeeting_104 g8.1 ht (tX5_readLineEnd hS (hD.dMee lt9 ha hb hab hk) g8 (fun q7 h7 w7 g7 => ?_) (fun e he w7 b7 => ?_))
          · exact bX5_readMeeting_108 g7.1 ht (Or.inr rfl) (k1 _ _ (P3.trans (pB_r h7)) w7 g7)
          · exact bX5_readMeeting_108 b7.1 ht (Or.inl rfl) (k0 _ (P3.trans (pB_l he)) w7 b7)
        · refine bX5_readMeeting_90 b6.1 ht _ rfl lt9 ?_
          have b8 := (b6.st (c := 6) (k := aNm (dH D)) (v := -1) ht (by decide)).st (c := 0) (k := 4) (v := pw_I (pw_sI w6 (t.2.1 + 6) (aNm (dH D)) (-1)) t.2.1 4 + 1) ht (by decide)
          exact bX5_readMeeting_104 b8.1 ht (tX5_readLineEndB hS b8 (fun w7 b7 => bX5_readMeeting_108 b7.1 ht (Or.inl rfl) (k0 e (P2.trans (pB_l he)) w7 b7)))
      · exact bX5_readMeeting_46 b3.1 ht (fun z => absurd rfl z) (fun _ => k0 e (P1.trans (pB_l he)) w3 b3)
    · exact bX5_readMeeting_31 b2.1 ht (fun z => absurd rfl z) (fun _ => k0 e (P0.trans (pB_l he)) w2 b2)
  · have ge : ¬ aNm (dH D) < 9 := fun h => z (nI_lt (b := 9) h (by decide))
    exact tX5_refuse hS hD hG (fun w1 b1 _ => bX5_readMeeting_18 b1.1 ht (Or.inl rfl) (k0 _ (if_neg ge) w1 b1))
/-- told once -/
def dBit (D : DS) (x : Nat) : DS := (dH D, dP D, dB D, dO D ||| 2 ^ x, dK D, dJ D, dF D)
theorem WD.dBit {x : Nat} (hD : WD D) (hx : x < 12) : WD (dBit D x) := ⟨hD.1, hD.2.1, hD.2.2.1, Nat.or_lt_two_pow (n := 12) hD.2.2.2 (Nat.pow_lt_pow_right (by decide) hx)⟩
theorem tX5_isFirstTime {x : Nat} {v : Int32} (hv : v = nI x) (hx : x < 12) (hS : XS0 t T n w0) (hD : WD D) (hG : XG t T n p D w0 w) (k1 : (dO D).testBit x = false → ∀ w', XG t T n p (dBit D x) w0 w' → Q (some (.int 1)) w') (k0 : (dO D).testBit x = true → ∀ w', XG t T n p (dBit D x) w0 w' → Q (some (.int 0)) w') : px_Call E (d + 1) 0 0 mX5_isFirstTime [.ref 16, .int v] w Q := by
  subst hv
  have h4 := hG.2.2.2.2.2.2.2.2.2
  have b12 := hD.2.2.2
  have m16 : (16 : Nat) ∈ dX t := by simp
  have g : XG t T n p (dBit D x) w0 (pw_sI w 16 4 (pw_I w 16 4 ||| js_shl 1 (nI x))) := by
    obtain ⟨hw, ha, hp, hk, f5, f6, hX⟩ := hG
    have a1 : ag [16] w (pw_sI w 16 4 (pw_I w 16 4 ||| js_shl 1 (nI x))) := ag.sI (by decide)
    refine ⟨hI hw, ha.tr (ag.sI m16), hp, hk.ag a1 (by decide), ?_, ?_, RXD.ag hX.1 a1 (dX_H hS.2.1 (by decide)), hX.2.1, hX.2.2.1, ?_⟩
    · rw [pw_oth (by decide)]; exact f5
    · rw [pw_oth (by decide)]; exact f6
    · rw [pw_same, h4, za_bit1 (by omega), za_or]; rfl
  refine eX5_isFirstTime hG.1 (fun z => ?_) (fun z => ?_) <;> rw [h4, za_tb0 (by omega) (by omega)] at z
  · exact bX5_isFirstTime_16 hG.1 (Or.inl rfl) (k0 (by revert z; cases (dO D).testBit x <;> simp) _ g)
  · exact bX5_isFirstTime_16 hG.1 (Or.inr rfl) (k1 z _ g)
def pSet (T : Nat → Nat) (n : Nat) (D : DS) (word lo hi p : Nat) : PR (Nat × Nat) := if (dO D).testBit word = true then .inl (rfu T n p) else pB (pNb T n word lo hi p) (fun a => pB (pEn T n a.1) (fun z => .inr (z, a.2)))
theorem tX5_readSetting {x lo hi : Nat} {v vl vh : Int32} (hv : v = nI x) (hvl : vl = nI lo) (hvh : vh = nI hi) (hx : x < 12) (hlo : lo < 10000) (hhi : hi < 10000) (hS : XS0 t T n w0) (hD : WD D) (hG : XG t T n p D w0 w) (k1 : ∀ q a, pSet T n D x lo hi p = .inr (q, a) → lo ≤ a → a ≤ hi → ∀ w', XG t T n q (dBit D x) w0 w' → Q (some (.int (nI a))) w') (k0 : ∀ e, pSet T n D x lo hi p = .inl e → ∀ (a : Int32) w', XBd t T n e w0 w' → Q (some (.int a)) w') : px_Call E (d + 9) 0 0 mX5_readSetting [.ref 16, .int v, .int vl, .int vh] w Q := by
  have hD2 := hD.dBit hx
  refine eX5_readSetting hG.1 (tX5_isFirstTime hv hx hS hD hG (fun hb w1 g1 => ?_) (fun hb w1 g1 => ?_))
  · have P0 : pSet T n D x lo hi p = _ := if_neg (by rw [hb]; decide)
    refine bX5_readSetting_5 g1.1 (fun _ => ?_) (fun z => absurd z (by decide))
    refine tX5_readNumberBehind hv hvl hvh (by omega) hlo hhi hS hD2 g1 (fun q a h2 w2 g2 _ => ?_) (fun e he w2 b2 => ?_)
    · have P1 := P0.trans (pB_r h2)
      have ha := pNb_r h2
      refine bX5_readSetting_22 g2.1 (tX5_readLineEnd hS hD2 g2 (fun q3 h3 w3 g3 => ?_) (fun e he w3 b3 => ?_))
      · exact bX5_readSetting_28 g3.1 (k1 _ _ (P1.trans (pB_r h3)) ha.1 ha.2 w3 g3)
      · exact bX5_readSetting_28 b3.1 (k0 _ (P1.trans (pB_l he)) _ w3 b3)
    · exact bX5_readSetting_22 b2.1 (tX5_readLineEndB hS b2 (fun w3 b3 => bX5_readSetting_28 b3.1 (k0 _ (P0.trans (pB_l he)) _ w3 b3)))
  · have P0 : pSet T n D x lo hi p = _ := if_pos hb
    refine bX5_readSetting_5 g1.1 (fun z => absurd rfl z) (fun _ => ?_)
    exact tX5_refuse hS hD2 g1 (fun w2 b2 _ => bX5_readSetting_12 b2.1 (k0 _ P0 _ w2 b2))
end XPA
