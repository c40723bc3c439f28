/-! what calls change -/
def gLie (g : GG) (y : Nat → Int32) (c : Nat) : GG := (g.1, g.2.1, g.2.2.1, g.2.2.2.1, g.2.2.2.2.1, (y, c), g.2.2.2.2.2.2)
def gTap (g : GG) (p : Nat → Nat) (l : Nat) : GG := (g.1, g.2.1, g.2.2.1, g.2.2.2.1, g.2.2.2.2.1, g.2.2.2.2.2.1, (p, l), g.2.2.2.2.2.2.2)
def gAct (g : GG) (s : aS) (R : Nat → aS) (a b : Nat) : GG := (g.1, s, (R, a, b), g.2.2.2)
def gSee (g : GG) (q : aG) (n tm : Nat) : GG := (g.1, g.2.1, g.2.2.1, g.2.2.2.1, (q, n, tm), g.2.2.2.2.2)
def gBox (g : GG) (x : Nat → aS) (u : Nat) : GG := (g.1, g.2.1, g.2.2.1, (x, u), g.2.2.2.2)
def gDo (g : GG) (s : aS) : GG := gAct g s (aKp (gR g) (gA g) s).1 (aKp (gR g) (gA g) s).2 (aKp (gR g) (gA g) s).2
theorem WG.lie {g : GG} {y : Nat → Int32} {c : Nat} (hg : WG g) (hc : c ≤ 6) : WG (gLie g y c) := ⟨hg.1, hg.2.1, hg.2.2.1, hg.2.2.2.1, hc, hg.2.2.2.2.2⟩
theorem WG.tap {g : GG} {p : Nat → Nat} {l : Nat} (hg : WG g) (hl : l ≤ 1600) (hp : ∀ i, p i < 256) : WG (gTap g p l) := ⟨hg.1, hg.2.1, hg.2.2.1, hg.2.2.2.1, hg.2.2.2.2.1, hl, hp⟩
theorem WG.act {g : GG} {s : aS} {R : Nat → aS} {a b : Nat} (hg : WG g) (e : R a = s) (ab : a ≤ b) (b4 : b ≤ 40) (hR : ∀ i, i ≤ b → aW9 (gH g) (R i)) : WG (gAct g s R a b) := ⟨hg.1, ⟨e, ab, b4, hR⟩, hg.2.2⟩
theorem WG.do {g : GG} {s : aS} (hg : WG g) (hs : aW9 (gH g) s) : WG (gDo g s) := by
  obtain ⟨e, ab, b4, hR⟩ := hg.2.1
  unfold gDo aKp
  split
  · rename_i z
    refine hg.act za_us (Nat.le_refl _) (by show gA g + 1 ≤ 40; omega) (fun i hi => ?_)
    have hi : i ≤ gA g + 1 := hi
    show aW9 (gH g) (za_u (gR g) (gA g + 1) s i)
    by_cases y : i = gA g + 1
    · subst y; rw [za_us]; exact hs
    · rw [za_un y]; exact hR i (by omega)
  · rename_i z
    refine hg.act (show za_u (fun i => gR g (i + 1)) 40 s 40 = s from za_us) (Nat.le_refl _) (Nat.le_refl _) (fun i hi => ?_)
    have hi : i ≤ 40 := hi
    show aW9 (gH g) (za_u (fun i => gR g (i + 1)) 40 s i)
    by_cases y : i = 40
    · subst y; rw [za_us]; exact hs
    · rw [za_un y]; exact hR (i + 1) (by omega)
theorem WG.see {g : GG} {q : aG} {n tm : Nat} (hg : WG g) (h : aWG (gH g) q n tm) : WG (gSee g q n tm) := ⟨hg.1, hg.2.1, hg.2.2.1, h, hg.2.2.2.2⟩
theorem WG.box {g : GG} {x : Nat → aS} {u : Nat} (hg : WG g) (hu : u < 8) (h : ∀ i, i < 3 → u.testBit i = true → aW9 (gH g) (x i)) : WG (gBox g x u) := ⟨hg.1, hg.2.1, ⟨hu, h⟩, hg.2.2.2⟩
/-! bytes -/
def byt (v : Int32) : Nat := v.toBitVec.toNat % 256
theorem byt_lt (v : Int32) : byt v < 256 := Nat.mod_lt _ (by decide)
theorem byt_and (v : Int32) : v &&& 255 = nI (byt v) := by
  apply Int32.toBitVec_inj.1
  show v.toBitVec &&& 255#32 = BitVec.ofNat 32 (v.toBitVec.toNat % 256)
  apply BitVec.eq_of_toNat_eq
  have := v.toBitVec.isLt
  rw [BitVec.toNat_and, BitVec.toNat_ofNat, BitVec.toNat_ofNat, show (255 % 2 ^ 32 : Nat) = 2 ^ 8 - 1 from rfl, Nat.and_two_pow_sub_one_eq_mod]
  omega
theorem i2b_i2b (v : Int32) : js_i2b (js_i2b v) = js_i2b v := by
  show v.toInt8.toInt32.toInt8.toInt32 = v.toInt8.toInt32
  rw [Int8.toInt8_toInt32]
theorem i2b_byt (v : Int32) : js_i2b v = js_i2b (nI (byt v)) := by
  show v.toInt8.toInt32 = (nI (byt v)).toInt8.toInt32
  congr 1
  rw [← byt_and]
  apply Int8.toBitVec_inj.1
  show v.toBitVec.signExtend 8 = (v.toBitVec &&& 255#32).signExtend 8
  apply BitVec.eq_of_getLsbD_eq
  intro i hi
  rw [BitVec.getLsbD_signExtend, BitVec.getLsbD_signExtend]
  have h32 : i < 32 := by omega
  simp only [hi, h32, if_true, BitVec.getLsbD_and]
  have : (255#32).getLsbD i = true := by
    have : ∀ i, i < 8 → (255#32).getLsbD i = true := by decide
    exact this i hi
  rw [this, Bool.and_true]
def tpx (p : Nat → Nat) (l : Nat) (x : Int32) : Nat → Nat := fun i => if i < l then p i else byt (js_shr x (nI (24 - 8 * (i - l))))
def gPut (g : GG) (x : Int32) : GG := gTap g (tpx (gP g) (gL g) x) (gL g + 4)
theorem WG.put {g : GG} {x : Int32} (hg : WG g) (hl : gL g + 4 ≤ 1600) : WG (gPut g x) := hg.tap hl (fun i => by
  unfold tpx
  split
  · exact hg.2.2.2.2.2.2 i
  · exact byt_lt _)
section XP
variable {E : px_E} {d : Nat} {w : pw_W} {Q : Option Value → pw_W → Prop} {t : ct_T} {g : GG}
theorem RX.lieK {w' : pw_W} {y : Nat → Int32} {c : Nat} (hg : WG g) (hR : RX t g w) (ha : ag (1 :: 60 :: xsc t) w w') (h1 : ∀ j, j ≠ 14 → pw_I w' 1 j = pw_I w 1 j) (hc : pw_I w' 1 14 = nI c) (hy : ∀ i, i < c → pw_I w' 60 i = y i) : RX t (gLie g y c) w' ∧ agX w w' := by
  obtain ⟨hw, ht, hH, hS, hL, hB, hG, hC, hY, hT, hF, hK⟩ := hR
  have np := hg.1.1
  have h0 := ht.1
  have m : ∀ a ∈ [2, 18, 35, 36, 37, 38, 39, 40, 48, 49, 50, 51, 52, 53, 54, 55], a ∉ 1 :: 60 :: xsc t := by
    unfold xsc
    rcases h0 with e | e <;> rw [e] <;> decide
  have nh : ∀ k, k ≤ 11 → t.1 + k ∉ 1 :: 60 :: xsc t := by
    unfold xsc
    intro k hk
    rcases h0 with e | e <;> rw [e] <;> simp <;> omega
  refine ⟨⟨ha.1.trans hw, ht, hH.ag ha nh, hS.ag ha (m 35 (by decide)) (m 36 (by decide)) (m 37 (by decide)), hL.ag np ha ⟨m 38 (by decide), m 39 (by decide)⟩, hB.ag np ha (m 40 (by decide)), hG.ag ha (fun a h => m a (by revert a; decide)), hC.ag ha ⟨m 48 (by decide), m 55 (by decide)⟩, hy, hT.ag ha (m 2 (by decide)), ⟨(h1 9 (by decide)).trans hF.1, hc, (h1 1 (by decide)).trans hF.2.2.1, (h1 3 (by decide)).trans hF.2.2.2.1, (h1 4 (by decide)).trans hF.2.2.2.2⟩, hK.ag ha (m 18 (by decide))⟩, ha.x (fun a h => ?_)⟩
  simp only [List.mem_cons] at h
  rcases h with rfl | rfl | h
  · decide
  · decide
  · exact xsc_x ht a (by simpa using h)
theorem RX.tapK {w' : pw_W} {p : Nat → Nat} {l : Nat} (hg : WG g) (hR : RX t g w) (ha : ag [1, 2] w w') (h1 : ∀ j, j ≠ 1 → pw_I w' 1 j = pw_I w 1 j) (hl : pw_I w' 1 1 = nI l) (hp : ∀ i, i < l → pw_I w' 2 i = js_i2b (nI (p i))) : RX t (gTap g p l) w' ∧ agX w w' := by
  obtain ⟨hw, ht, hH, hS, hL, hB, hG, hC, hY, hT, hF, hK⟩ := hR
  have np := hg.1.1
  have nh : ∀ k, k ≤ 11 → t.1 + k ∉ [1, 2] := by
    intro k hk
    rcases ht.1 with e | e <;> rw [e] <;> simp <;> omega
  exact ⟨⟨ha.1.trans hw, ht, hH.ag ha nh, hS.ag ha (by decide) (by decide) (by decide), hL.ag np ha (by decide), hB.ag np ha (by decide), hG.ag ha (by decide), hC.ag ha (by decide), hY.ag ha (by decide), hp, ⟨(h1 9 (by decide)).trans hF.1, (h1 14 (by decide)).trans hF.2.1, hl, (h1 3 (by decide)).trans hF.2.2.2.1, (h1 4 (by decide)).trans hF.2.2.2.2⟩, hK.ag ha (by decide)⟩, ha.x (by decide)⟩
theorem tX9_putFour {x : Int32} (hg : WG g) (hR : RX t g w) (hl : gL g + 4 ≤ 1600) (k : ∀ w', RX t (gPut g x) w' → agX w w' → Q none w') : px_Call E (d + 1) 0 0 mX9_putFour [.ref 1, .int x] w Q := by
  have hF := hR.2.2.2.2.2.2.2.2.2.2.1
  have hT := hR.2.2.2.2.2.2.2.2.2.1
  have hw := hR.1
  have base : ∀ j, j ≤ 4 → ∀ w1, ag [1, 2] w w1 → (∀ i, i ≠ 1 → pw_I w1 1 i = pw_I w 1 i) → pw_I w1 1 1 = nI (gL g + j) → (∀ i, i < gL g + j → pw_I w1 2 i = js_i2b (nI (tpx (gP g) (gL g) x i))) → px_W E mX9_putFour (d + 1) 0 0 3 [.ref 1, .int x, .int (nI 24 - nI (8 * j))] [] w1 Q := by
    refine za_up 4 _ (fun j hj ih => ?_)
    intro w1 a1 f1 l1 t1
    have hw1 := a1.1.trans hw
    by_cases e4 : j = 4
    · subst e4
      have q := hR.tapK hg a1 f1 l1 t1
      have kk := bX9_putFour_46 (E := E) (d := d) (t := t) hw1 (k w1 q.1 q.2)
      exact bX9_putFour_3 hw1 (fun _ => kk) (fun _ _ => kk) (fun z _ => absurd (by decide) z)
    · have e : nI 24 - nI (8 * j) = nI (24 - 8 * j) := pk_sub (by omega)
      rw [e]
      refine bX9_putFour_3 hw1 (fun z => absurd z (nI_pos (by omega))) (fun _ z => ?_) (fun _ _ => ?_)
      · rw [l1] at z
        have := za_le (a := 1600) (by omega) (by omega) z
        omega
      · refine bX9_putFour_17 hw1 (gL g + j) l1 (by omega) ?_
        have e2 : nI (24 - 8 * j) + (-8) = nI 24 - nI (8 * (j + 1)) := by
          have : ∀ j, j < 4 → nI (24 - 8 * j) + (-8) = nI 24 - nI (8 * (j + 1)) := by decide
          exact this j (by omega)
        rw [e2, l1, nI_1]
        refine ih (by omega) _ (a1.tr ((ag.sI (by decide)).tr (ag.sI (by decide)))) (fun i hi => ?_) pw_same (fun i hi => ?_)
        · rw [pw_oth (fun _ z => hi z), pw_oth (fun z _ => by omega)]
          exact f1 i hi
        · rw [pw_oth (fun z _ => by omega)]
          by_cases ei : i = gL g + j
          · subst ei
            rw [pw_same, i2b_i2b, i2b_byt]
            unfold tpx
            rw [if_neg (by omega), show gL g + j - gL g = j by omega]
          · rw [pw_oth (fun _ z => ei z)]
            exact t1 i (by omega)
  exact eX9_putFour hw (base 0 (by omega) w ag.rf (fun _ _ => rfl) hF.2.2.1 (fun i hi => by unfold tpx; rw [if_pos (by omega)]; exact hT i (by omega)))
theorem tX9_feed {a b c e f : Int32} (hg : WG g) (hR : RX t g w) (k0 : ¬ gL g + 20 ≤ 1600 → Q (some (.int (-1))) w) (k1 : gL g + 20 ≤ 1600 → ∀ w', RX t (gPut (gPut (gPut (gPut (gPut g a) b) c) e) f) w' → agX w w' → Q (some (.int (nI (gL g + 20)))) w') : px_Call E (d + 20) 0 0 mX9_feed [.ref 1, .int a, .int b, .int c, .int e, .int f] w Q := by
  have hF := hR.2.2.2.2.2.2.2.2.2.2.1
  have l6 := hg.2.2.2.2.2.1
  have hw := hR.1
  refine eX9_feed hw (fun z => ?_) (fun z => ?_) <;> rw [hF.2.2.1, show nI (gL g) + 20 = nI (gL g + 20) from nI_add _ 20] at z
  · have z : gL g + 20 ≤ 1600 := za_le (b := 1600) (by omega) (by omega) z
    have l : ∀ x : Int32, ∀ q : GG, gL (gPut q x) = gL q + 4 := fun _ _ => rfl
    have W1 := hg.put (x := a) (by omega)
    have W2 := W1.put (x := b) (by rw [l]; omega)
    have W3 := W2.put (x := c) (by rw [l, l]; omega)
    have W4 := W3.put (x := e) (by rw [l, l, l]; omega)
    refine tX9_putFour hg hR (by omega) (fun w1 R1 x1 => bX9_feed_20 R1.1 ?_)
    refine tX9_putFour W1 R1 (by rw [l]; omega) (fun w2 R2 x2 => bX9_feed_25 R2.1 ?_)
    refine tX9_putFour W2 R2 (by rw [l, l]; omega) (fun w3 R3 x3 => bX9_feed_30 R3.1 ?_)
    refine tX9_putFour W3 R3 (by rw [l, l, l]; omega) (fun w4 R4 x4 => bX9_feed_36 R4.1 ?_)
    refine tX9_putFour W4 R4 (by rw [l, l, l, l]; omega) (fun w5 R5 x5 => bX9_feed_42 R5.1 ?_)
    rw [R5.2.2.2.2.2.2.2.2.2.2.1.2.2.1]
    exact k1 z w5 R5 (x1.tr (x2.tr (x3.tr (x4.tr x5))))
  · exact k0 (fun y => z ((nI_leI (b := 1600) (by omega) (by omega)).mpr y))
theorem tX9_end {x : Int32} (hg : WG g) (hR : RX t g w) (k0 : ¬ V (gL g + 1) x → Q (some (.int (-1))) w) (k1 : V (gL g + 1) x → ∀ w', RX t (gTap g (gP g) (N x)) w' → agX w w' → Q (some (.int x)) w') : px_Call E (d + 20) 0 0 mX9_end [.ref 1, .int x] w Q := by
  have hF := hR.2.2.2.2.2.2.2.2.2.2.1
  have hT := hR.2.2.2.2.2.2.2.2.2.1
  have l6 := hg.2.2.2.2.2.1
  have hw := hR.1
  have vl := V_le (n := gL g) (x := x) (by omega)
  refine eX9_end hw (fun a => bX9_end_12 hw (k0 (fun z => z.1 a))) (fun a b => ?_) (fun a b => bX9_end_12 hw (k0 (fun z => ?_))) <;> rw [hF.2.2.1] at b
  · have v := vl.mp ⟨a, Int32.not_lt.mpr b⟩
    obtain ⟨j, hj, rfl, ej⟩ := V_of (by omega) v
    have q := hR.tapK (p := gP g) (l := j) (w' := pw_sI w 1 1 (nI j)) hg (ag.sI (by decide)) (fun i hi => pw_oth (fun _ z => hi z)) pw_same (fun i hi => by rw [pw_oth (fun z _ => by omega)]; exact hT i (by omega))
    have := k1 v _ (by rw [ej]; exact q.1) q.2
    exact this
  · exact (vl.mpr z).2 (Int32.not_le.mp b)
theorem RX.actK {w' : pw_W} {s : aS} {R : Nat → aS} {a b : Nat} (hg : WG g) (hR : RX t g w) (ha : ag (35 :: 36 :: 37 :: 38 :: 39 :: xsc t) w w') (hS : RXS (gH g) s w' 35) (hL : XL (gH g) R a b w') : RX t (gAct g s R a b) w' ∧ agX w w' := by
  obtain ⟨hw, ht, hH, -, -, hB, hG, hC, hY, hT, hF, hK⟩ := hR
  have np := hg.1.1
  have h0 := ht.1
  have m : ∀ a ∈ [1, 2, 18, 40, 48, 49, 50, 51, 52, 53, 54, 55, 60], a ∉ 35 :: 36 :: 37 :: 38 :: 39 :: xsc t := by
    unfold xsc
    rcases h0 with e | e <;> rw [e] <;> decide
  have nh : ∀ k, k ≤ 11 → t.1 + k ∉ 35 :: 36 :: 37 :: 38 :: 39 :: xsc t := by
    unfold xsc
    intro k hk
    rcases h0 with e | e <;> rw [e] <;> simp <;> omega
  refine ⟨⟨ha.1.trans hw, ht, hH.ag ha nh, hS, hL, hB.ag np ha (m 40 (by decide)), hG.ag ha (fun a h => m a (by revert a; decide)), hC.ag ha ⟨m 48 (by decide), m 55 (by decide)⟩, hY.ag ha (m 60 (by decide)), hT.ag ha (m 2 (by decide)), hF.ag ha (m 1 (by decide)), hK.ag ha (m 18 (by decide))⟩, ha.x (fun a h => ?_)⟩
  simp only [List.mem_cons] at h
  rcases h with rfl | rfl | rfl | rfl | rfl | h
  · decide
  · decide
  · decide
  · decide
  · decide
  · exact xsc_x ht a (by simpa using h)
/-- an act is kept -/
theorem RX.keep {w1 : pw_W} {s : aS} (hg : WG g) (hR : RX t g w) (ha : ag (35 :: 36 :: 37 :: xsc t) w w1) (hS : RXS (gH g) s w1 35) (k : ∀ w', RX t (gDo g s) w' → agX w w' → Q none w') : px_Call E (d + 2) 0 0 mX3_keepAct [.ref 38, .ref 35] w1 Q := by
  have np := hg.1.1
  have nn : 38 ∉ 35 :: 36 :: 37 :: xsc t ∧ 39 ∉ 35 :: 36 :: 37 :: xsc t := by
    unfold xsc
    rcases hR.2.1.1 with e | e <;> rw [e] <;> decide
  refine tX3_keepAct (ha.1.trans hR.1) np hS (hR.2.2.2.2.1.ag np ha nn) hg.2.1.2.1 hg.2.1.2.2.1 (fun w' a' L' => ?_)
  have q := hR.actK (w' := w') hg ((ha.mono (by intro a; simp; omega)).tr (a'.mono (by simp))) (hS.ag a' (by decide) (by decide) (by decide)) L'
  exact k w' q.1 q.2
theorem tX9_day (hg : WG g) (hR : RX t g w) (k0 : ¬ sD (gS g) < 999 → Q (some (.int (-1))) w) (k1 : sD (gS g) < 999 → ∀ w', RX t (gDo g (aDay (gH g) (aRo (gH g)) true (gS g))) w' → agX w w' → Q (some (.int (nI (aMet (gH g) (gS g))))) w') : px_Call E (d + 20) 0 0 mX9_day [.ref 1] w Q := by
  have hw := hR.1
  have h1 := hR.2.1.1
  have hd := hg.s.2
  refine eX9_day hw h1 (fun z => ?_) (fun z => ?_) <;> rw [hR.2.2.2.1.2.2.2.1] at z
  · have z : sD (gS g) < 999 := za_lt (b := 999) (by omega) (by omega) z
    have n9 : t.1 + 9 ∉ [35, 35 + 1, 35 + 2, t.1 + 12] := by rcases h1 with e | e <;> rw [e] <;> decide
    refine tX2_passDay (fl := true) hw h1 st35 h1.sh9 n9 hR.2.2.1 hR.2.2.2.1 hR.2.2.1.ro hg.1 hg.s.1 hg.1.ro (fun w1 a1 S1 => ?_)
    refine bX9_day_34 (a1.1.trans hw) h1 (RX.keep hg hR (a1.mono (by intro a; simp; omega)) S1 (fun w' R' x' => ?_))
    exact bX9_day_46 R'.1 h1 (k1 z w' R' x')
  · exact k0 (fun y => z ((nI_ltI (b := 999) (by omega) (by omega)).mpr y))
theorem tX9_lesson {x : Int32} (hg : WG g) (hR : RX t g w) (k0 : ¬ (V (aNp (gH g)) x ∧ sF (gS g) (N x) < 30) → Q (some (.int (-1))) w) (k1 : V (aNp (gH g)) x → sF (gS g) (N x) < 30 → ∀ w', RX t (gDo g (sSetF (gS g) (N x) (sF (gS g) (N x) + 1))) w' → agX w w' → Q (some (.int (nI (sF (gS g) (N x) + 1)))) w') : px_Call E (d + 20) 0 0 mX9_lesson [.ref 1, .int x] w Q := by
  have np := hg.1.1
  have hw := hR.1
  have h1 := hR.2.1.1
  have no : ¬ (V (aNp (gH g)) x ∧ sF (gS g) (N x) < 30) → px_W E mX9_lesson (d + 20) 0 0 22 [.null, .null] [] w Q := fun z => bX9_lesson_22 hw h1 (k0 z)
  refine eX9_lesson hw h1 (fun a => no (fun q => a ((hR.isP x).mpr q.1))) (fun a => ?_)
  have va := (hR.isP x).mp a
  obtain ⟨p, hp, rfl, ep⟩ := V_of (by omega) va
  have b30 := (hg.s.1.1 p hp).1
  have eF : pw_I w 37 p = nI (sF (gS g) p) := hR.2.2.2.1.2.1 p hp
  refine bX9_lesson_8 hw h1 p rfl (by omega) (fun z => ?_) (fun z => no (fun q => ?_)) <;> rw [eF] at z
  · have z : sF (gS g) p < 30 := za_lt (b := 30) (by omega) (by omega) z
    refine bX9_lesson_24 hw h1 p rfl (by omega) ?_
    rw [eF, nI_1]
    refine RX.keep hg hR (w1 := pw_sI w 37 p (nI (sF (gS g) p + 1))) (s := sSetF (gS g) p (sF (gS g) p + 1)) (ag.sI (by simp)) (hR.2.2.2.1.setF (p := p) rfl) (fun w' R' x' => ?_)
    refine bX9_lesson_48 R'.1 h1 p rfl (by omega) ?_
    have e2 : pw_I w' 37 p = nI (sF (gS g) p + 1) := (R'.2.2.2.1.2.1 p hp).trans (congrArg nI za_us)
    rw [e2]
    have := k1 va (by rw [ep]; exact z) w' (by rw [ep]; exact R') x'
    rw [ep] at this
    exact this
  · rw [ep] at q
    exact z ((nI_ltI (b := 30) (by omega) (by omega)).mpr q.2)
theorem tX9_turn {i : Nat} (hg : WG g) (hR : RX t g w) (hi : i < aNm (gH g)) (k : ∀ w', RX t (gDo g (sSetB (gS g) (sB (gS g) ^^^ 2 ^ i))) w' → agX w w' → Q (some (.int (nI (sB (gS g) ^^^ 2 ^ i)))) w') : px_Call E (d + 3) 0 0 mX9_turnForbidden [.ref 1, .int (nI i)] w Q := by
  have nm := hg.1.2.1
  refine eX9_turnForbidden hR.1 ?_
  rw [hR.2.2.2.1.2.2.1, za_bit1 (by omega), za_xor]
  refine RX.keep hg hR (s := sSetB (gS g) (sB (gS g) ^^^ 2 ^ i)) (ag.sI (by simp)) (hR.2.2.2.1.setB rfl) (fun w' R' x' => ?_)
  refine bX9_turnForbidden_26 R'.1 ?_
  have e2 : pw_I w' 35 2 = nI (sB (gS g) ^^^ 2 ^ i) := R'.2.2.2.1.2.2.1
  rw [e2]
  exact k w' R' x'
theorem tX9_forbid {x : Int32} (hg : WG g) (hR : RX t g w) (k0 : ¬ (V (aNm (gH g)) x ∧ (sB (gS g)).testBit (N x) = false) → Q (some (.int (-1))) w) (k1 : V (aNm (gH g)) x → (sB (gS g)).testBit (N x) = false → ∀ w', RX t (gDo g (sSetB (gS g) (sB (gS g) ^^^ 2 ^ N x))) w' → agX w w' → Q (some (.int (nI (sB (gS g) ^^^ 2 ^ N x)))) w') : px_Call E (d + 20) 0 0 mX9_forbid [.ref 1, .int x] w Q := by
  have nm := hg.1.2.1
  have hw := hR.1
  have h1 := hR.2.1.1
  have no : ¬ (V (aNm (gH g)) x ∧ (sB (gS g)).testBit (N x) = false) → px_W E mX9_forbid (d + 20) 0 0 19 [.null, .null] [] w Q := fun z => bX9_forbid_19 hw h1 (k0 z)
  refine eX9_forbid hw h1 (fun a => no (fun q => a ((hR.isM x).mpr q.1))) (fun a b => ?_) (fun a b => no (fun q => ?_))
  · have va := (hR.isM x).mp a
    obtain ⟨p, hp, rfl, ep⟩ := V_of (by omega) va
    rw [pXfb hR.2.2.2.1 hg.s.1 (by omega)] at b
    have b : (sB (gS g)).testBit p = false := by cases hb : (sB (gS g)).testBit p with
      | false => rfl
      | true => exact absurd hb b
    rw [ep] at k1
    exact tX9_turn hg hR hp (fun w' R' x' => bX9_forbid_26 R'.1 h1 (k1 va b w' R' x'))
  · obtain ⟨p, hp, rfl, ep⟩ := V_of (by omega) q.1
    rw [pXfb hR.2.2.2.1 hg.s.1 (by omega)] at b
    rw [ep, b] at q
    cases q.2
theorem tX9_allow {x : Int32} (hg : WG g) (hR : RX t g w) (k0 : ¬ (V (aNm (gH g)) x ∧ (sB (gS g)).testBit (N x) = true) → Q (some (.int (-1))) w) (k1 : V (aNm (gH g)) x → (sB (gS g)).testBit (N x) = true → ∀ w', RX t (gDo g (sSetB (gS g) (sB (gS g) ^^^ 2 ^ N x))) w' → agX w w' → Q (some (.int (nI (sB (gS g) ^^^ 2 ^ N x)))) w') : px_Call E (d + 20) 0 0 mX9_allow [.ref 1, .int x] w Q := by
  have nm := hg.1.2.1
  have hw := hR.1
  have h1 := hR.2.1.1
  have no : ¬ (V (aNm (gH g)) x ∧ (sB (gS g)).testBit (N x) = true) → px_W E mX9_allow (d + 20) 0 0 19 [.null, .null] [] w Q := fun z => bX9_allow_19 hw h1 (k0 z)
  refine eX9_allow hw h1 (fun a => no (fun q => a ((hR.isM x).mpr q.1))) (fun a b => ?_) (fun a b => no (fun q => ?_))
  · have va := (hR.isM x).mp a
    obtain ⟨p, hp, rfl, ep⟩ := V_of (by omega) va
    rw [pXfb hR.2.2.2.1 hg.s.1 (by omega)] at b
    rw [ep] at k1
    exact tX9_turn hg hR hp (fun w' R' x' => bX9_allow_26 R'.1 h1 (k1 va b w' R' x'))
  · obtain ⟨p, hp, rfl, ep⟩ := V_of (by omega) q.1
    rw [pXfb hR.2.2.2.1 hg.s.1 (by omega)] at b
    rw [ep] at q
    exact b q.2
theorem tX9_call {x y : Int32} (hg : WG g) (hR : RX t g w) (k0 : ¬ (V (aNb (gH g)) x ∧ V (aNp (gH g)) y ∧ sL (gS g) (N y) ≠ 0) → Q (some (.int (-1))) w) (k1 : V (aNb (gH g)) x → V (aNp (gH g)) y → sL (gS g) (N y) ≠ 0 → ∀ w', RX t (gDo g (aCl (gH g) (gS g) (N x) (N y))) w' → agX w w' → Q (some (.int (nI (sL (gS g) (N y) - aCo (gH g) (N x))))) w') : px_Call E (d + 20) 0 0 mX9_call [.ref 1, .int x, .int y] w Q := by
  have np := hg.1.1
  have nb := hg.1.2.2.1
  have hw := hR.1
  have h1 := hR.2.1.1
  have no : ¬ (V (aNb (gH g)) x ∧ V (aNp (gH g)) y ∧ sL (gS g) (N y) ≠ 0) → px_W E mX9_call (d + 20) 0 0 28 [.null, .null, .null] [] w Q := fun z => bX9_call_28 hw h1 (k0 z)
  refine eX9_call hw h1 (fun a => no (fun q => a ((hR.isB x).mpr q.1))) (fun a b => no (fun q => b ((hR.isP y).mpr q.2.1))) (fun a b => ?_)
  have va := (hR.isB x).mp a
  have vb := (hR.isP y).mp b
  obtain ⟨i, hi, rfl, ei⟩ := V_of (by omega) va
  obtain ⟨p, hp, rfl, ep⟩ := V_of (by omega) vb
  have b99 := (hg.s.1.1 p hp).2
  have eL : pw_I w 36 p = nI (sL (gS g) p) := hR.2.2.2.1.1 p hp
  rw [ei, ep] at k1
  refine bX9_call_16 hw h1 p rfl (by omega) (fun z => ?_) (fun z => no (fun q => ?_)) <;> rw [eL] at z
  · have z : sL (gS g) p ≠ 0 := za_ne (b := 0) (by omega) (by omega) z
    refine tX2_coolOne hw h1 st35 hR.2.2.1 hR.2.2.2.1 hg.1 hg.s.1 hi hp (fun w1 a1 S1 => ?_)
    refine bX9_call_43 (a1.1.trans hw) h1 (RX.keep hg hR (a1.mono (by simp)) S1 (fun w' R' x' => ?_))
    refine bX9_call_54 R'.1 h1 p rfl (by omega) ?_
    have e2 : pw_I w' 36 p = nI (sL (gS g) p - aCo (gH g) i) := (R'.2.2.2.1.1 p hp).trans (congrArg nI za_us)
    rw [e2]
    exact k1 va vb z w' R' x'
  · rw [ep] at q
    exact q.2.2 (za_eq (b := 0) (by omega) (by omega) z)
theorem tX9_undo (hg : WG g) (hR : RX t g w) (k0 : gA g = 0 → Q (some (.int 0)) w) (k1 : 0 < gA g → ∀ w', RX t (gAct g (gR g (gA g - 1)) (gR g) (gA g - 1) (gB g)) w' → agX w w' → Q (some (.int 1)) w') : px_Call E (d + 20) 0 0 mX9_undo [.ref 1] w Q := by
  have np := hg.1.1
  refine eX9_undo hR.1 (tX3_stepBack hR.1 np hR.2.2.2.2.1 hg.2.1.2.1 hg.2.1.2.2.1 (fun z => bX9_undo_11 hR.1 (Or.inl rfl) (k0 z)) (fun w' z a' L' S' => ?_))
  have q := hR.actK hg (a'.mono (by intro a; simp; omega)) S' L'
  exact bX9_undo_11 q.1.1 (Or.inr rfl) (k1 z w' q.1 q.2)
theorem tX9_redo (hg : WG g) (hR : RX t g w) (k0 : gA g = gB g → Q (some (.int 0)) w) (k1 : gA g < gB g → ∀ w', RX t (gAct g (gR g (gA g + 1)) (gR g) (gA g + 1) (gB g)) w' → agX w w' → Q (some (.int 1)) w') : px_Call E (d + 20) 0 0 mX9_redo [.ref 1] w Q := by
  have np := hg.1.1
  refine eX9_redo hR.1 (tX3_stepOn hR.1 np hR.2.2.2.2.1 hg.2.1.2.1 hg.2.1.2.2.1 (fun z => bX9_redo_11 hR.1 (Or.inl rfl) (k0 z)) (fun w' z a' L' S' => ?_))
  have q := hR.actK hg (a'.mono (by intro a; simp; omega)) S' L'
  exact bX9_redo_11 q.1.1 (Or.inr rfl) (k1 z w' q.1 q.2)
end XP
