/-! the reference's calls, the rest but hamlet -/
section MP
variable {E : px_E} {d : Nat} {w : pw_W} {Q : Option Value → pw_W → Prop} {t : ct_T} {g : GG}
theorem RM.lieK {w' : pw_W} {S F : List Nat} {y : Nat → Int32} {c : Nat} (hg : WG g) (hR : RM g w) (ha : agF S F w w') (hs : ∀ a ∈ S, a ∈ 92 :: msc) (hf : ∀ a ∈ F, a ∈ 68 :: msf) (hc : pw_I w' 61 68 = nI c) (hy : ∀ i, i < c → pw_I w' 92 i = y i) : RM (gLie g y c) w' ∧ agM w w' := by
  obtain ⟨hH, hS, hO, hL, hB, hG, hY, hT, hF⟩ := hR
  have np := hg.1.1
  have n : ∀ a, a ∉ 92 :: msc → a ∉ S := fun a h1 h2 => h1 (hs a h2)
  have f : ∀ a, a ∉ 68 :: msf → a ∉ F := fun a h1 h2 => h1 (hf a h2)
  have n61 := n 61 (by decide)
  exact ⟨⟨hH.agF ha (fun a h => n a (by revert a; decide)) (fun a h => f a (by revert a; decide)), hS.agF np ha (n _ (by decide)) (by decide), hO.agF ha (n _ (by decide)), hL.agF np ha (n _ (by decide)), hB.agF np ha ⟨n _ (by decide), n _ (by decide)⟩, hG.agF ha (fun a h => n a (by revert a; decide)), hy, hT.agF ha (n _ (by decide)), (ha.F n61 (f _ (by decide))).trans hF.1, (ha.F n61 (f _ (by decide))).trans hF.2.1, (ha.F n61 (f _ (by decide))).trans hF.2.2.1, (ha.F n61 (f _ (by decide))).trans hF.2.2.2.1, (ha.F n61 (f _ (by decide))).trans hF.2.2.2.2.1, hc, (ha.F n61 (f _ (by decide))).trans hF.2.2.2.2.2.2.1, (ha.F n61 (f _ (by decide))).trans hF.2.2.2.2.2.2.2⟩, ha.m (fun a h => (show ∀ a ∈ 92 :: msc, 61 ≤ a by decide) a (hs a h))⟩
theorem RM.tapK {w' : pw_W} {p : Nat → Nat} {l : Nat} (hg : WG g) (hR : RM g w) (ha : agF [62] [1] w w') (hl : pw_I w' 61 1 = nI l) (hp : ∀ i, i < l → pw_I w' 62 i = nI (p i)) : RM (gTap g p l) w' ∧ agM w w' := by
  obtain ⟨hH, hS, hO, hL, hB, hG, hY, hT, hF⟩ := hR
  have np := hg.1.1
  exact ⟨⟨hH.agF ha (by decide) (by decide), hS.agF np ha (by decide) (by decide), hO.agF ha (by decide), hL.agF np ha (by decide), hB.agF np ha (by decide), hG.agF ha (by decide), hY.agF ha (by decide), hp, hl, (ha.F (by decide) (by decide)).trans hF.2.1, (ha.F (by decide) (by decide)).trans hF.2.2.1, (ha.F (by decide) (by decide)).trans hF.2.2.2.1, (ha.F (by decide) (by decide)).trans hF.2.2.2.2.1, (ha.F (by decide) (by decide)).trans hF.2.2.2.2.2.1, (ha.F (by decide) (by decide)).trans hF.2.2.2.2.2.2.1, (ha.F (by decide) (by decide)).trans hF.2.2.2.2.2.2.2⟩, ha.m (by decide)⟩
theorem RM.actK {w' : pw_W} {s : aS} {R : Nat → aS} {a b : Nat} (hg : WG g) (hR : RM g w) (ha : agF [69, 70, 89, 90, 91] [63, 64] w w') (hS : RMS (gH g) s w' 89) (hL : ML (gH g) R a b w') (h1 : pw_I w' 61 63 = nI a) (h2 : pw_I w' 61 64 = nI (b - a)) : RM (gAct g s R a b) w' ∧ agM w w' := by
  obtain ⟨hH, -, hO, -, hB, hG, hY, hT, hF⟩ := hR
  have np := hg.1.1
  exact ⟨⟨hH.agF ha (by decide) (by decide), hS, hO.agF ha (by decide), hL, hB.agF np ha (by decide), hG.agF ha (by decide), hY.agF ha (by decide), hT.agF ha (by decide), (ha.F (by decide) (by decide)).trans hF.1, (ha.F (by decide) (by decide)).trans hF.2.1, (ha.F (by decide) (by decide)).trans hF.2.2.1, h1, h2, (ha.F (by decide) (by decide)).trans hF.2.2.2.2.2.1, (ha.F (by decide) (by decide)).trans hF.2.2.2.2.2.2.1, (ha.F (by decide) (by decide)).trans hF.2.2.2.2.2.2.2⟩, ha.m (by decide)⟩
theorem RM.seeK {w' : pw_W} {q : aG} {n tm : Nat} (hg : WG g) (hR : RM g w) (ha : agF [97, 98, 99, 100, 101, 102] [78, 79] w w') (hG : MSg q n w') (h1 : pw_I w' 61 78 = nI n) (h2 : pw_I w' 61 79 = nI tm) : RM (gSee g q n tm) w' ∧ agM w w' := by
  obtain ⟨hH, hS, hO, hL, hB, -, hY, hT, hF⟩ := hR
  have np := hg.1.1
  exact ⟨⟨hH.agF ha (by decide) (by decide), hS.agF np ha (by decide) (by decide), hO.agF ha (by decide), hL.agF np ha (by decide), hB.agF np ha (by decide), hG, hY.agF ha (by decide), hT.agF ha (by decide), (ha.F (by decide) (by decide)).trans hF.1, (ha.F (by decide) (by decide)).trans hF.2.1, (ha.F (by decide) (by decide)).trans hF.2.2.1, (ha.F (by decide) (by decide)).trans hF.2.2.2.1, (ha.F (by decide) (by decide)).trans hF.2.2.2.2.1, (ha.F (by decide) (by decide)).trans hF.2.2.2.2.2.1, h1, h2⟩, ha.m (by decide)⟩
theorem tX10_four {x : Int32} (hw : w.1 = cs t) (hg : WG g) (hR : RM g w) (hl : gL g + 4 ≤ 1600) (k : ∀ w', w'.1 = cs t → RM (gPut g x) w' → agM w w' → Q none w') : px_Call E (d + 1) 0 0 mX10_four [.ref 61, .int x] w Q := by
  have hF := hR.2.2.2.2.2.2.2.2
  have hT := hR.2.2.2.2.2.2.2.1
  have base : ∀ j, j ≤ 4 → ∀ w1, agF [62] [1] w w1 → pw_I w1 61 1 = nI (gL g + j) → (∀ i, i < gL g + j → pw_I w1 62 i = nI (tpx (gP g) (gL g) x i)) → px_W E mX10_four (d + 1) 0 0 3 [.ref 61, .int x, .int (nI 24 - nI (8 * j))] [] w1 Q := by
    refine za_up 4 _ (fun j hj ih => ?_)
    intro w1 a1 l1 t1
    have hw1 := a1.1.trans hw
    by_cases e4 : j = 4
    · subst e4
      have q := hR.tapK hg a1 l1 t1
      exact bX10_four_3 hw1 (fun _ => k w1 hw1 q.1 q.2) (fun z => absurd (by decide) z)
    · have e : nI 24 - nI (8 * j) = nI (24 - 8 * j) := pk_sub (by omega)
      rw [e]
      refine bX10_four_3 hw1 (fun z => absurd z (nI_pos (by omega))) (fun _ => ?_)
      refine bX10_four_7 hw1 (gL g + j) l1 (by omega) ?_
      have e2 : nI (24 - 8 * j) + (-8) = nI 24 - nI (8 * (j + 1)) := by
        have : ∀ j, j < 4 → nI (24 - 8 * j) + (-8) = nI 24 - nI (8 * (j + 1)) := by decide
        exact this j (by omega)
      rw [e2, l1, nI_1, byt_and]
      refine ih (by omega) _ (a1.tr ((agF.sC (by decide)).tr (agF.sI (by decide)))) pw_same (fun i hi => ?_)
      rw [pw_oth (fun z _ => by omega)]
      by_cases ei : i = gL g + j
      · subst ei
        rw [pw_same]
        unfold tpx
        rw [if_neg (by omega), show gL g + j - gL g = j by omega]
      · rw [pw_oth (fun _ z => ei z)]
        exact t1 i (by omega)
  exact eX10_four hw (base 0 (by omega) w agF.rf hF.1 (fun i hi => by unfold tpx; rw [if_pos (by omega)]; exact hT i (by omega)))
theorem tX10_feed {a b c e f : Int32} (hw : w.1 = cs t) (hg : WG g) (hR : RM g w) (k0 : ¬ gL g + 20 ≤ 1600 → Q (some (.int (-1))) w) (k1 : gL g + 20 ≤ 1600 → ∀ w', RM (gPut (gPut (gPut (gPut (gPut g a) b) c) e) f) w' → agM w w' → Q (some (.int (nI (gL g + 20)))) w') : px_Call E (d + 20) 0 0 mX10_feed [.ref 61, .int a, .int b, .int c, .int e, .int f] w Q := by
  have hF := hR.2.2.2.2.2.2.2.2
  have l6 := hg.2.2.2.2.2.1
  refine eX10_feed hw (fun z => ?_) (fun z => ?_) <;> rw [hF.1, show nI (gL g) + 20 = nI (gL g + 20) from nI_add _ 20] at z
  · have z : gL g + 20 ≤ 1600 := za_le (b := 1600) (by omega) (by omega) z
    have l : ∀ x : Int32, ∀ q : GG, gL (gPut q x) = gL q + 4 := fun _ _ => rfl
    have W1 := hg.put (x := a) (by omega)
    have W2 := W1.put (x := b) (by rw [l]; omega)
    have W3 := W2.put (x := c) (by rw [l, l]; omega)
    have W4 := W3.put (x := e) (by rw [l, l, l]; omega)
    refine tX10_four hw hg hR (by omega) (fun w1 hw1 R1 x1 => bX10_feed_20 hw1 ?_)
    refine tX10_four hw1 W1 R1 (by rw [l]; omega) (fun w2 hw2 R2 x2 => bX10_feed_25 hw2 ?_)
    refine tX10_four hw2 W2 R2 (by rw [l, l]; omega) (fun w3 hw3 R3 x3 => bX10_feed_30 hw3 ?_)
    refine tX10_four hw3 W3 R3 (by rw [l, l, l]; omega) (fun w4 hw4 R4 x4 => bX10_feed_36 hw4 ?_)
    refine tX10_four hw4 W4 R4 (by rw [l, l, l, l]; omega) (fun w5 hw5 R5 x5 => bX10_feed_42 hw5 ?_)
    rw [R5.2.2.2.2.2.2.2.2.1]
    exact k1 z w5 R5 (x1.tr (x2.tr (x3.tr (x4.tr x5))))
  · exact k0 (fun y => z ((nI_leI (b := 1600) (by omega) (by omega)).mpr y))
theorem tX10_end {x : Int32} (hw : w.1 = cs t) (hg : WG g) (hR : RM g w) (k0 : ¬ V (gL g + 1) x → Q (some (.int (-1))) w) (k1 : V (gL g + 1) x → ∀ w', RM (gTap g (gP g) (N x)) w' → agM w w' → Q (some (.int x)) w') : px_Call E (d + 20) 0 0 mX10_end [.ref 61, .int x] w Q := by
  have hF := hR.2.2.2.2.2.2.2.2
  have hT := hR.2.2.2.2.2.2.2.1
  have l6 := hg.2.2.2.2.2.1
  have vl := V_le (n := gL g) (x := x) (by omega)
  refine eX10_end hw (fun a => bX10_end_12 hw (k0 (fun z => z.1 a))) (fun a b => ?_) (fun a b => bX10_end_12 hw (k0 (fun z => ?_))) <;> rw [hF.1] at b
  · have v := vl.mp ⟨a, Int32.not_lt.mpr b⟩
    obtain ⟨j, hj, rfl, ej⟩ := V_of (by omega) v
    have q := hR.tapK (p := gP g) (l := j) (w' := pw_sI w 61 1 (nI j)) hg (agF.sI (by decide)) pw_same (fun i hi => by rw [pw_oth (fun z _ => by omega)]; exact hT i (by omega))
    have := k1 v _ (by rw [ej]; exact q.1) q.2
    exact this
  · exact (vl.mpr z).2 (Int32.not_le.mp b)
/-- an act is begun: what was is kept -/
theorem RM.act (s' : aS) (hw : w.1 = cs t) (hg : WG g) (hR : RM g w) (k : ∀ w1, w1.1 = cs t → agF [69, 70, 89, 90, 91] [63, 64] w w1 → RMH (gH g) w1 → RMR (gH g) (aRo (gH g)) w1 → RMS (gH g) (gS g) w1 90 → RMS (gH g) (gS g) w1 89 → (∀ w', agF [69, 70, 89, 90] [] w1 w' → RMS (gH g) s' w' 89 → RM (gDo g s') w' ∧ agM w w') → Q none w1) : px_Call E (d + 2) 0 0 mX10_act [.ref 61] w Q := by
  have np := hg.1.1
  obtain ⟨e, ab, b4, -⟩ := hg.2.1
  refine tX10_act s' hw np hR.2.1 hR.2.2.2.1 e ab b4 hR.2.2.2.2.2.2.2.2.2.2.2.1 (fun w1 a1 S1 m1 m2 r1 => ?_)
  refine k w1 (a1.1.trans hw) (a1.mono (by simp) (by simp)) (hR.1.agF a1 (by decide) (by decide)) (hR.2.2.1.agF a1 (by decide)) S1 (hR.2.1.agF np a1 (by decide) (by decide)) (fun w' a' S' => ?_)
  refine hR.actK hg ((a1.mono (by simp) (by simp)).tr (a'.mono (by intro a; simp; omega) (by simp))) S' (fun i hi => ?_) ((a'.F (by decide) (by decide)).trans m1) ?_
  · rw [if_pos hi]
    exact (r1 i hi).agF np a' (by decide) (by decide)
  · rw [a'.F (by decide) (by decide), m2, Nat.sub_self]
    rfl
theorem tX10_day (hw : w.1 = cs t) (hg : WG g) (hR : RM g w) (k0 : ¬ sD (gS g) < 999 → Q (some (.int (-1))) w) (k1 : sD (gS g) < 999 → ∀ w', RM (gDo g (aDay (gH g) (aRo (gH g)) true (gS g))) w' → agM w w' → Q (some (.int (nI (aMet (gH g) (gS g))))) w') : px_Call E (d + 20) 0 0 mX10_day [.ref 61] w Q := by
  have np := hg.1.1
  have hd := hg.s.2
  refine eX10_day hw (fun z => ?_) (fun z => ?_) <;> rw [hR.2.1.2.2.2.1] at z
  · have z : sD (gS g) ≠ 999 := za_ne (b := 999) (by omega) (by omega) z
    refine RM.act (aDay (gH g) (aRo (gH g)) true (gS g)) hw hg hR (fun w1 hw1 a1 H1 O1 S1 _ fin => bX10_day_19 hw1 ?_)
    refine tX10_goDay (fl := true) hw1 H1 S1 O1 hg.1 hg.s.1 hg.1.ro (fun w2 a2 S2 => ?_)
    have hw2 := a2.1.trans hw1
    refine bX10_day_24 hw2 (tX10_keepAir hw2 (fun w3 a3 f3 => ?_))
    have q := fin w3 ((agF.of (a2.mono (by simp))).tr (agF.of (a3.mono (by simp)))) (S2.cp np f3)
    exact bX10_day_29 (a3.1.trans hw2) (k1 (by omega) w3 q.1 q.2)
  · exact k0 (fun y => by have := za_eq (b := 999) (by omega) (by omega) z; omega)
theorem tX10_lesson {x : Int32} (hw : w.1 = cs t) (hg : WG g) (hR : RM g w) (k0 : ¬ (V (aNp (gH g)) x ∧ sF (gS g) (N x) < 30) → Q (some (.int (-1))) w) (k1 : V (aNp (gH g)) x → sF (gS g) (N x) < 30 → ∀ w', RM (gDo g (sSetF (gS g) (N x) (sF (gS g) (N x) + 1))) w' → agM w w' → Q (some (.int (nI (sF (gS g) (N x) + 1)))) w') : px_Call E (d + 20) 0 0 mX10_lesson [.ref 61, .int x] w Q := by
  have np := hg.1.1
  have no : ¬ (V (aNp (gH g)) x ∧ sF (gS g) (N x) < 30) → px_W E mX10_lesson (d + 20) 0 0 19 [.null, .null] [] w Q := fun z => bX10_lesson_19 hw (k0 z)
  refine eX10_lesson hw (fun a => no (fun q => a ((hR.isP hg x).mpr q.1))) (fun a => ?_)
  have va := (hR.isP hg x).mp a
  obtain ⟨p, hp, rfl, ep⟩ := V_of (by omega) va
  have b30 := (hg.s.1.1 p hp).1
  rw [ep] at k1
  refine bX10_lesson_8 hw p rfl (by omega) (fun z => ?_) (fun z => no (fun q => ?_)) <;> rw [hR.2.1.2.1 p hp] at z
  · have z : sF (gS g) p ≠ 30 := za_ne (b := 30) (by omega) (by omega) z
    refine RM.act (sSetF (gS g) p (sF (gS g) p + 1)) hw hg hR (fun w1 hw1 a1 H1 O1 _ S1 fin => ?_)
    refine bX10_lesson_25 hw1 p rfl (by omega) ?_
    rw [pw_same, S1.2.1 p hp, nI_1]
    have q := fin (pw_sI w1 89 p (nI (sF (gS g) p + 1))) (agF.sC (by decide)) (S1.setF (p := p) (by omega) rfl)
    exact k1 va (by omega) _ q.1 q.2
  · rw [ep] at q
    have := za_eq (b := 30) (by omega) (by omega) z
    omega
theorem tX10_turn {i : Nat} (hw : w.1 = cs t) (hg : WG g) (hR : RM g w) (hi : i < aNm (gH g)) (k : ∀ w', w'.1 = cs t → RM (gDo g (sSetB (gS g) (sB (gS g) ^^^ 2 ^ i))) w' → agM w w' → Q (some (.int (nI (sB (gS g) ^^^ 2 ^ i)))) w') : px_Call E (d + 3) 0 0 mX10_turnBan [.ref 61, .int (nI i)] w Q := by
  have np := hg.1.1
  have nm := hg.1.2.1
  refine eX10_turnBan hw (RM.act (sSetB (gS g) (sB (gS g) ^^^ 2 ^ i)) hw hg hR (fun w1 hw1 a1 H1 O1 _ S1 fin => bX10_turnBan_4 hw1 ?_))
  rw [S1.2.2.1, za_bit1 (by omega), za_xor]
  have q := fin (pw_sI w1 89 12 (nI (sB (gS g) ^^^ 2 ^ i))) (agF.sC (by decide)) (S1.setB np rfl)
  exact k _ (hI hw1) q.1 q.2
theorem tX10_forbid {x : Int32} (hw : w.1 = cs t) (hg : WG g) (hR : RM g w) (k0 : ¬ (V (aNm (gH g)) x ∧ (sB (gS g)).testBit (N x) = false) → Q (some (.int (-1))) w) (k1 : V (aNm (gH g)) x → (sB (gS g)).testBit (N x) = false → ∀ w', RM (gDo g (sSetB (gS g) (sB (gS g) ^^^ 2 ^ N x))) w' → agM w w' → Q (some (.int (nI (sB (gS g) ^^^ 2 ^ N x)))) w') : px_Call E (d + 20) 0 0 mX10_forbid [.ref 61, .int x] w Q := by
  have nm := hg.1.2.1
  have no : ¬ (V (aNm (gH g)) x ∧ (sB (gS g)).testBit (N x) = false) → px_W E mX10_forbid (d + 20) 0 0 24 [.null, .null] [] w Q := fun z => bX10_forbid_24 hw (bX10_forbid_25 hw (k0 z))
  refine eX10_forbid hw (fun a => no (fun q => a ((hR.isM hg x).mpr q.1))) (fun a b => no (fun q => ?_)) (fun a b => ?_)
  · obtain ⟨p, hp, rfl, ep⟩ := V_of (by omega) q.1
    rw [pMbn hR.2.1 hg.s.1 (by omega)] at b
    rw [ep, b] at q
    cases q.2
  · have va := (hR.isM hg x).mp a
    obtain ⟨p, hp, rfl, ep⟩ := V_of (by omega) va
    rw [pMbn hR.2.1 hg.s.1 (by omega)] at b
    have b : (sB (gS g)).testBit p = false := by cases hb : (sB (gS g)).testBit p with
      | false => rfl
      | true => exact absurd hb b
    rw [ep] at k1
    exact tX10_turn hw hg hR hp (fun w' hw' R' x' => bX10_forbid_21 hw' (bX10_forbid_25 hw' (k1 va b w' R' x')))
theorem tX10_allow {x : Int32} (hw : w.1 = cs t) (hg : WG g) (hR : RM g w) (k0 : ¬ (V (aNm (gH g)) x ∧ (sB (gS g)).testBit (N x) = true) → Q (some (.int (-1))) w) (k1 : V (aNm (gH g)) x → (sB (gS g)).testBit (N x) = true → ∀ w', RM (gDo g (sSetB (gS g) (sB (gS g) ^^^ 2 ^ N x))) w' → agM w w' → Q (some (.int (nI (sB (gS g) ^^^ 2 ^ N x)))) w') : px_Call E (d + 20) 0 0 mX10_allow [.ref 61, .int x] w Q := by
  have nm := hg.1.2.1
  have no : ¬ (V (aNm (gH g)) x ∧ (sB (gS g)).testBit (N x) = true) → px_W E mX10_allow (d + 20) 0 0 24 [.null, .null] [] w Q := fun z => bX10_allow_24 hw (bX10_allow_25 hw (k0 z))
  refine eX10_allow hw (fun a => no (fun q => a ((hR.isM hg x).mpr q.1))) (fun a b => no (fun q => ?_)) (fun a b => ?_)
  · obtain ⟨p, hp, rfl, ep⟩ := V_of (by omega) q.1
    rw [pMbn hR.2.1 hg.s.1 (by omega)] at b
    rw [ep] at q
    exact b q.2
  · have va := (hR.isM hg x).mp a
    obtain ⟨p, hp, rfl, ep⟩ := V_of (by omega) va
    rw [pMbn hR.2.1 hg.s.1 (by omega)] at b
    rw [ep] at k1
    exact tX10_turn hw hg hR hp (fun w' hw' R' x' => bX10_allow_21 hw' (bX10_allow_25 hw' (k1 va b w' R' x')))
theorem tX10_call {x y : Int32} (hw : w.1 = cs t) (hg : WG g) (hR : RM g w) (k0 : ¬ (V (aNb (gH g)) x ∧ V (aNp (gH g)) y ∧ sL (gS g) (N y) ≠ 0) → Q (some (.int (-1))) w) (k1 : V (aNb (gH g)) x → V (aNp (gH g)) y → sL (gS g) (N y) ≠ 0 → ∀ w', RM (gDo g (aCl (gH g) (gS g) (N x) (N y))) w' → agM w w' → Q (some (.int (nI (sL (gS g) (N y) - aCo (gH g) (N x))))) w') : px_Call E (d + 20) 0 0 mX10_call [.ref 61, .int x, .int y] w Q := by
  have np := hg.1.1
  have nb := hg.1.2.2.1
  have no : ¬ (V (aNb (gH g)) x ∧ V (aNp (gH g)) y ∧ sL (gS g) (N y) ≠ 0) → px_W E mX10_call (d + 20) 0 0 28 [.null, .null, .null] [] w Q := fun z => bX10_call_28 hw (k0 z)
  refine eX10_call hw (fun a => no (fun q => a ((hR.isB hg x).mpr q.1))) (fun a b => no (fun q => b ((hR.isP hg y).mpr q.2.1))) (fun a b => ?_)
  have va := (hR.isB hg x).mp a
  have vb := (hR.isP hg y).mp b
  obtain ⟨i, hi, rfl, ei⟩ := V_of (by omega) va
  obtain ⟨p, hp, rfl, ep⟩ := V_of (by omega) vb
  have b99 := (hg.s.1.1 p hp).2
  rw [ei, ep] at k1
  refine bX10_call_16 hw (6 + p) (six p) (by omega) (fun z => ?_) (fun z => no (fun q => ?_)) <;> rw [hR.2.1.1 p hp] at z
  · have z : sL (gS g) p ≠ 0 := za_ne (b := 0) (by omega) (by omega) z
    refine RM.act (aCl (gH g) (gS g) i p) hw hg hR (fun w1 hw1 a1 H1 O1 S1 _ fin => bX10_call_34 hw1 ?_)
    refine tX10_soothes hw1 H1 S1 hg.1 hg.s.1 hi hp (fun w2 a2 S2 => ?_)
    have hw2 := a2.1.trans hw1
    refine bX10_call_40 hw2 (tX10_keepAir hw2 (fun w3 a3 f3 => ?_))
    have q := fin w3 ((agF.of (a2.mono (by simp))).tr (agF.of (a3.mono (by simp)))) (S2.cp np f3)
    refine bX10_call_44 (a3.1.trans hw2) (6 + p) (six p) (by omega) ?_
    have e2 : pw_I w3 89 (6 + p) = nI (sL (gS g) p - aCo (gH g) i) := (q.1.2.1.1 p hp).trans (congrArg nI za_us)
    rw [e2]
    exact k1 va vb z w3 q.1 q.2
  · rw [ep] at q
    exact q.2.2 (za_eq (b := 0) (by omega) (by omega) z)
theorem tX10_undo (hw : w.1 = cs t) (hg : WG g) (hR : RM g w) (k0 : gA g = 0 → Q (some (.int 0)) w) (k1 : 0 < gA g → ∀ w', RM (gAct g (gR g (gA g - 1)) (gR g) (gA g - 1) (gB g)) w' → agM w w' → Q (some (.int 1)) w') : px_Call E (d + 20) 0 0 mX10_undo [.ref 61] w Q := by
  have np := hg.1.1
  obtain ⟨e, ab, b4, -⟩ := hg.2.1
  have hF := hR.2.2.2.2.2.2.2.2
  have hL := hR.2.2.2.1
  refine eX10_undo hw (fun z => ?_) (fun z => ?_) <;> rw [hF.2.2.2.1] at z
  · have z : gA g ≠ 0 := za_ne (b := 0) (by omega) (by omega) z
    rw [hF.2.2.2.1, hF.2.2.2.2.1, show nI (gA g) - 1 = nI (gA g - 1) from pk_sub (b := 1) (by omega), nI_1, show (15 : Int32) = nI 15 from rfl, pk_mul]
    have A1 : agF [69, 70, 89, 90, 91] [63, 64] w (pw_sI (pw_sI w 61 63 (nI (gA g - 1))) 61 64 (nI (gB g - gA g + 1))) := (agF.sI (by decide)).tr (agF.sI (by decide))
    have A0 : agF [] [63, 64] w (pw_sI (pw_sI w 61 63 (nI (gA g - 1))) 61 64 (nI (gB g - gA g + 1))) := (agF.sI (by decide)).tr (agF.sI (by decide))
    have L1 := hL (gA g - 1) (by omega)
    rw [if_pos (by omega)] at L1
    refine tX10_exchange (hI (hI hw)) np (hR.2.1.agF np A0 (by decide) (by decide)) (L1.agF np A0 (by decide) (by decide)) (by omega) (fun w2 a2 S2 r2 o2 => ?_)
    have q := hR.actK (w' := w2) (R := gR g) (a := gA g - 1) (b := gB g) hg (A1.tr (agF.of (a2.mono (by simp)))) S2 (fun i hi => ?_) (by rw [a2.I (by decide), pw_oth (fun _ z => by omega), pw_same]) (by rw [a2.I (by decide), pw_same, show gB g - gA g + 1 = gB g - (gA g - 1) by omega])
    · exact bX10_undo_40 (a2.1.trans (hI (hI hw))) (k1 (by omega) w2 q.1 q.2)
    · by_cases ei : i = gA g - 1
      · subst ei
        rw [if_neg (by omega), show gA g - 1 + 1 = gA g by omega, e]
        exact r2
      · have := ((hL i hi).agF np A0 (by decide) (by decide)).eqv (w' := w2) (a' := 91) (o' := 15 * i) np (fun j hj => o2 _ (by omega))
        by_cases y : i < gA g
        · rw [if_pos y] at this; rw [if_pos (by omega)]; exact this
        · rw [if_neg y] at this; rw [if_neg (by omega)]; exact this
  · exact k0 (za_eq (b := 0) (by omega) (by omega) z)
theorem tX10_redo (hw : w.1 = cs t) (hg : WG g) (hR : RM g w) (k0 : gA g = gB g → Q (some (.int 0)) w) (k1 : gA g < gB g → ∀ w', RM (gAct g (gR g (gA g + 1)) (gR g) (gA g + 1) (gB g)) w' → agM w w' → Q (some (.int 1)) w') : px_Call E (d + 20) 0 0 mX10_redo [.ref 61] w Q := by
  have np := hg.1.1
  obtain ⟨e, ab, b4, -⟩ := hg.2.1
  have hF := hR.2.2.2.2.2.2.2.2
  have hL := hR.2.2.2.1
  refine eX10_redo hw (fun z => ?_) (fun z => ?_) <;> rw [hF.2.2.2.2.1] at z
  · have z : gB g - gA g ≠ 0 := za_ne (b := 0) (by omega) (by omega) z
    rw [hF.2.2.2.1, show (15 : Int32) = nI 15 from rfl, pk_mul]
    have L1 := hL (gA g) (by omega)
    rw [if_neg (by omega)] at L1
    refine tX10_exchange hw np hR.2.1 L1 (by omega) (fun w2 a2 S2 r2 o2 => bX10_redo_20 (a2.1.trans hw) ?_)
    rw [a2.I (by decide), a2.I (by decide), hF.2.2.2.1, hF.2.2.2.2.1, nI_1, show nI (gB g - gA g) - 1 = nI (gB g - gA g - 1) from pk_sub (b := 1) (by omega)]
    have A0 : agF [] [63, 64] w2 (pw_sI (pw_sI w2 61 63 (nI (gA g + 1))) 61 64 (nI (gB g - gA g - 1))) := (agF.sI (by decide)).tr (agF.sI (by decide))
    have q := hR.actK (w' := pw_sI (pw_sI w2 61 63 (nI (gA g + 1))) 61 64 (nI (gB g - gA g - 1))) (R := gR g) (a := gA g + 1) (b := gB g) hg ((agF.of (a2.mono (by simp))).tr (A0.mono (by simp) (by simp))) (S2.agF np A0 (by decide) (by decide)) (fun i hi => ?_) (by rw [pw_oth (fun _ z => by omega), pw_same]) (by rw [pw_same, show gB g - gA g - 1 = gB g - (gA g + 1) by omega])
    · exact k1 (by omega) _ q.1 q.2
    · refine RMr.agF np ?_ A0 (by decide) (by decide)
      by_cases ei : i = gA g
      · subst ei
        rw [if_pos (by omega), e]
        exact r2
      · have := (hL i hi).eqv (w' := w2) (a' := 91) (o' := 15 * i) np (fun j hj => o2 _ (by omega))
        by_cases y : i < gA g
        · rw [if_pos y] at this; rw [if_pos (by omega)]; exact this
        · rw [if_neg y] at this; rw [if_neg (by omega)]; exact this
  · have := za_eq (b := 0) (by omega) (by omega) z
    exact k0 (by omega)
theorem tX10_seen {x y z u : Int32} (hw : w.1 = cs t) (hg : WG g) (hR : RM g w) (hu : z1 u) (k0 : ¬ (V 15 x ∧ V (aNp (gH g)) y ∧ V 100 z ∧ gN g < 30) → Q (some (.int (-1))) w) (k1 : V 15 x → V (aNp (gH g)) y → V 100 z → gN g < 30 → ∀ w', RM (gSeen g x y z u) w' → agM w w' → Q (some (.int (nI (gN g)))) w') : px_Call E (d + 20) 0 0 mX10_seen [.ref 61, .int x, .int y, .int z, .int u] w Q := by
  have np := hg.1.1
  have hF := hR.2.2.2.2.2.2.2.2
  have hG := hR.2.2.2.2.2.1
  have n30 := hg.2.2.2.1.1
  have eN : pw_I w 61 78 = nI (gN g) := hF.2.2.2.2.2.2.1
  have eT : pw_I w 61 79 = nI (gT g) := hF.2.2.2.2.2.2.2
  have no : ¬ (V 15 x ∧ V (aNp (gH g)) y ∧ V 100 z ∧ gN g < 30) → px_W E mX10_seen (d + 20) 0 0 37 [.null, .null, .null, .null, .null] [] w Q := fun q => bX10_seen_37 hw (k0 q)
  refine eX10_seen hw (fun a => no (fun q => a ((isI (n := 14) (by decide) x).mpr q.1))) (fun a b => no (fun q => b ((hR.isP hg y).mpr q.2.1))) (fun a b c => no (fun q => c ((isI (n := 99) (by decide) z).mpr q.2.2.1))) (fun a b c q => ?_) (fun a b c q => no (fun v => ?_)) <;> rw [eN] at q
  · have va := (isI (n := 14) (by decide) x).mp a
    have vb := (hR.isP hg y).mp b
    have vc := (isI (n := 99) (by decide) z).mp c
    have q : gN g ≠ 30 := za_ne (b := 30) (by omega) (by omega) q
    have kk := k1 va vb vc (by omega)
    obtain ⟨xn, hx, rfl, ex⟩ := V_of (by decide) va
    obtain ⟨yn, hy, rfl, ey⟩ := V_of (by omega) vb
    obtain ⟨zn, hz, rfl, ez⟩ := V_of (by decide) vc
    refine bX10_seen_39 hw (gN g) eN (by omega) hu ?_
    rw [eN, eT, nI_1, nI_pred]
    have eu : nI (N u) = u := by rcases hu with rfl | rfl <;> decide
    have s := hR.seeK (w' := pw_sI (pw_sI (pw_sI (pw_sI (pw_sI (pw_sI (pw_sI w 97 (gN g) (nI xn)) 98 (gN g) (nI yn)) 99 (gN g) (nI zn)) 102 (gN g) u) 100 (gN g) (nI (gT g))) 101 (gN g) (-1)) 61 78 (nI (gN g + 1))) (q := seeQ (gG g) (gN g) (N (nI xn)) (N (nI yn)) (N (nI zn)) (N u) (gT g)) (n := gN g + 1) (tm := gT g) hg
      (((((((agF.sC (by decide)).tr (agF.sC (by decide))).tr (agF.sC (by decide))).tr (agF.sC (by decide))).tr (agF.sC (by decide))).tr (agF.sC (by decide))).tr (agF.sI (by decide)))
      (fun j hj => ?_) pw_same (by rw [pw_oth (fun _ z => by omega)]; (iterate 6 rw [pw_oth (fun z _ => by omega)]); exact eT)
    · exact kk _ s.1 s.2
    · by_cases ej : j = gN g
      · subst ej
        rw [seeQ_n, seeQ_n, seeQ_n, seeQ_n, seeQ_n, seeQ_n, ex, ey, ez]
        refine ⟨?_, ?_, ?_, ?_, ?_, ?_⟩
        · (iterate 6 rw [pw_oth (fun z _ => by omega)]); exact pw_same
        · (iterate 5 rw [pw_oth (fun z _ => by omega)]); exact pw_same
        · (iterate 4 rw [pw_oth (fun z _ => by omega)]); exact pw_same
        · (iterate 3 rw [pw_oth (fun z _ => by omega)]); rw [pw_same]; exact eu.symm
        · (iterate 2 rw [pw_oth (fun z _ => by omega)]); exact pw_same
        · rw [pw_oth (fun z _ => by omega), pw_same]; rfl
      · rw [seeQ_o ej, seeQ_o ej, seeQ_o ej, seeQ_o ej, seeQ_o ej, seeQ_o ej]
        have o : ∀ a, a ≠ 61 → pw_I (pw_sI (pw_sI (pw_sI (pw_sI (pw_sI (pw_sI (pw_sI w 97 (gN g) (nI xn)) 98 (gN g) (nI yn)) 99 (gN g) (nI zn)) 102 (gN g) u) 100 (gN g) (nI (gT g))) 101 (gN g) (-1)) 61 78 (nI (gN g + 1))) a j = pw_I w a j := fun a ha => by
          rw [pw_oth (fun z _ => ha z)]
          iterate 6 rw [pw_oth (fun _ z => ej z)]
        rw [o 97 (by decide), o 98 (by decide), o 99 (by decide), o 102 (by decide), o 100 (by decide), o 101 (by decide)]
        exact hG j (by omega)
  · have := za_eq (b := 30) (by omega) (by omega) q
    omega
theorem tX10_untell {x : Int32} (hw : w.1 = cs t) (hg : WG g) (hR : RM g w) (k0 : ¬ (V (gN g) x ∧ gG g 5 (N x) = 0) → Q (some (.int 0)) w) (k1 : V (gN g) x → gG g 5 (N x) = 0 → ∀ w', RM (gUnt g x) w' → agM w w' → Q (some (.int 1)) w') : px_Call E (d + 20) 0 0 mX10_untell [.ref 61, .int x] w Q := by
  have hF := hR.2.2.2.2.2.2.2.2
  have hG := hR.2.2.2.2.2.1
  have n30 := hg.2.2.2.1.1
  have eN : pw_I w 61 78 = nI (gN g) := hF.2.2.2.2.2.2.1
  have eT : pw_I w 61 79 = nI (gT g) := hF.2.2.2.2.2.2.2
  have vp : pX10_isIn x 0 (pw_I w 61 78 - 1) ↔ V (gN g) x := by
    rw [eN]
    exact V_pred (by omega)
  have no : ¬ (V (gN g) x ∧ gG g 5 (N x) = 0) → px_W E mX10_untell (d + 20) 0 0 23 [.null, .null] [] w Q := fun q => bX10_untell_23 hw (k0 q)
  refine eX10_untell hw (fun a => no (fun q => a (vp.mpr q.1))) (fun a => ?_)
  have va := vp.mp a
  have kk := k1 va
  obtain ⟨j, hj, rfl, ej⟩ := V_of (by omega) va
  obtain ⟨-, -, -, -, -, g5⟩ := hg.2.2.2.1.2.2 j hj
  obtain ⟨h0, h1, h2, h3, h4, h5⟩ := hG j hj
  refine bX10_untell_14 hw j rfl (by omega) (fun c => ?_) (fun c => no (fun q => c ?_))
  · rw [h5, aU_neg g5] at c
    have kk := kk (by rw [ej]; exact c)
    refine bX10_untell_25 hw j rfl (by omega) ?_
    rw [eT]
    have s := hR.seeK (w' := pw_sI w 101 j (nI (gT g))) (q := untQ (gG g) (N (nI j)) (gT g + 1)) (n := gN g) (tm := gT g) hg (agF.sC (by decide)) (fun i hi => ?_) (by rw [pw_oth (fun z _ => by omega)]; exact eN) (by rw [pw_oth (fun z _ => by omega)]; exact eT)
    · exact kk _ s.1 s.2
    · rw [ej]
      have o : ∀ a, a ≠ 101 → pw_I (pw_sI w 101 j (nI (gT g))) a i = pw_I w a i := fun a ha => pw_oth (fun z _ => ha z)
      rw [o 97 (by decide), o 98 (by decide), o 99 (by decide), o 102 (by decide), o 100 (by decide), untQ_o (k := 0) (fun z => by omega), untQ_o (k := 1) (fun z => by omega), untQ_o (k := 2) (fun z => by omega), untQ_o (k := 3) (fun z => by omega), untQ_o (k := 4) (fun z => by omega)]
      obtain ⟨b0, b1, b2, b3, b4, b5⟩ := hG i hi
      refine ⟨b0, b1, b2, b3, b4, ?_⟩
      by_cases ei : i = j
      · subst ei
        rw [pw_same, untQ_n]
        rfl
      · rw [pw_oth (fun _ z => ei z), untQ_o (fun z => ei z.2)]
        exact b5
  · rw [h5, aU_neg g5]
    rw [ej] at q
    exact q.2
theorem tX10_later {x : Int32} (hw : w.1 = cs t) (hg : WG g) (hR : RM g w) (k0 : ¬ (V 1001 x ∧ gT g + N x ≤ 100000) → Q (some (.int (-1))) w) (k1 : V 1001 x → gT g + N x ≤ 100000 → ∀ w', RM (gSee g (gG g) (gN g) (gT g + N x)) w' → agM w w' → Q (some (.int (nI (gT g + N x)))) w') : px_Call E (d + 20) 0 0 mX10_later [.ref 61, .int x] w Q := by
  have hF := hR.2.2.2.2.2.2.2.2
  have hG := hR.2.2.2.2.2.1
  have tl := hg.2.2.2.1.2.1
  have eN : pw_I w 61 78 = nI (gN g) := hF.2.2.2.2.2.2.1
  have eT : pw_I w 61 79 = nI (gT g) := hF.2.2.2.2.2.2.2
  have vl := V_le (n := 1000) (x := x) (by decide)
  have no : ¬ (V 1001 x ∧ gT g + N x ≤ 100000) → px_W E mX10_later (d + 20) 0 0 23 [.null, .null] [] w Q := fun q => bX10_later_23 hw (k0 q)
  refine eX10_later hw (fun a => no (fun q => q.1.1 a)) (fun a b => no (fun q => (vl.mpr q.1).2 b)) (fun a b c => ?_) (fun a b c => no (fun q => ?_))
  · have va := vl.mp ⟨a, b⟩
    have kk := k1 va
    obtain ⟨j, hj, rfl, ej⟩ := V_of (by decide) va
    rw [eT, nI_add] at c ⊢
    have c : gT g + j ≤ 100000 := za_le (b := 100000) (by omega) (by omega) c
    rw [ej] at kk
    have A : agF [] [79] w (pw_sI w 61 79 (nI (gT g + j))) := agF.sI (by decide)
    have s := hR.seeK (w' := pw_sI w 61 79 (nI (gT g + j))) (q := gG g) (n := gN g) (tm := gT g + j) hg (A.mono (by simp) (by simp)) (hG.agF A (by decide)) (by rw [pw_oth (fun _ z => by omega)]; exact eN) pw_same
    exact kk c _ s.1 s.2
  · obtain ⟨j, hj, rfl, ej⟩ := V_of (by decide) q.1
    rw [ej] at q
    rw [eT, nI_add] at c
    exact c ((nI_leI (b := 100000) (by omega) (by omega)).mpr q.2)
theorem tX10_image {x : Int32} (hw : w.1 = cs t) (hg : WG g) (hR : RM g w) (k0 : ¬ V 3 x → Q (some (.int (-1))) w) (k1 : V 3 x → ∀ w', RM (gImg g x) w' → agM w w' → Q (some (.int (nI (sD (gS g))))) w') : px_Call E (d + 20) 0 0 mX10_image [.ref 61, .int x] w Q := by
  obtain ⟨hH, hS, hO, hL, hB, hG, hY, hT, hF⟩ := id hR
  have np := hg.1.1
  refine eX10_image hw (fun a => ?_) (fun a => k0 a)
  have va : V 3 x := a
  have kk := k1 va
  obtain ⟨j, hj, rfl, ej⟩ := V_of (by decide) va
  refine bX10_image_9 hw j rfl hj ?_
  have key : ∀ i, i ≤ 15 → ∀ w2, ag [107] (pw_sI w 106 j 1) w2 → (∀ q, q < i → pw_I w2 107 (15 * j + q) = pw_I w 89 q) → (∀ q, ¬ (15 * j ≤ q ∧ q < 15 * j + i) → pw_I w2 107 q = pw_I w 107 q) → px_W E mX10_image (d + 20) 0 0 18 [.ref 61, .int (nI j), .int (nI i)] [] w2 Q := by
    refine za_up 15 _ (fun i hi ih => ?_)
    intro w2 a2 f2 o2
    have hw2 := a2.1.trans (hI hw)
    have A : agF [106, 107] [] w w2 := (agF.sC (by decide)).tr (agF.of (a2.mono (by simp)))
    refine bX10_image_18 hw2 (fun q => ?_) (fun q => ?_)
    · have : i = 15 := by have := za_le (a := 15) (by omega) (by omega) q; omega
      subst this
      refine bX10_image_47 hw2 ?_
      rw [A.I (by decide) (by decide), hS.2.2.2.1]
      refine kk w2 ⟨hH.agF A (by decide) (by decide), hS.agF np A (by decide) (by decide), hO.agF A (by decide), hL.agF np A (by decide), fun i hi => ?_, hG.agF A (by decide), hY.agF A (by decide), hT.agF A (by decide), hF.agF A (by decide) (by decide)⟩ (A.m (by decide))
      have tb : (gU g ||| 2 ^ j).testBit i = ((gU g).testBit i || decide (j = i)) := by rw [Nat.testBit_or, Nat.testBit_two_pow]
      show pw_I w2 106 i = jb ((gU g ||| 2 ^ N (nI j)).testBit i = true) ∧ ((gU g ||| 2 ^ N (nI j)).testBit i = true → RMr (gH g) (za_u (gX g) (N (nI j)) (gS g) i) w2 107 (15 * i))
      rw [ej, a2.I (by decide)]
      by_cases e : i = j
      · subst e
        rw [pw_same, za_us]
        refine ⟨?_, fun _ => hS.r np f2⟩
        rw [jb_t (by rw [tb]; simp)]
      · rw [pw_oth (fun _ z => e z), za_un e]
        have tb2 : (gU g ||| 2 ^ j).testBit i = (gU g).testBit i := by rw [tb]; simp [show ¬ j = i from fun z => e z.symm]
        rw [tb2]
        exact ⟨(hB i hi).1, fun z => ((hB i hi).2 z).eqv np (fun q hq => o2 _ (by omega))⟩
    · have hlt : i < 15 := za_nle (a := 15) (by omega) (by omega) q
      refine bX10_image_24 hw2 i rfl hlt (15 * j + i) (by rw [show (15 : Int32) = nI 15 from rfl, pk_mul, nI_add]) (by omega) ?_
      rw [nI_1]
      refine ih hlt _ (a2.tr (ag.sI (by decide))) (fun q hq => ?_) (fun q hq => ?_)
      · by_cases eq : q = i
        · subst eq; rw [pw_same]; exact A.I (by decide) (by decide) _
        · rw [pw_oth (fun _ z => eq (by omega))]; exact f2 q (by omega)
      · rw [pw_oth (fun _ z => hq (by omega))]; exact o2 q (by omega)
  exact key 0 (by omega) _ ag.rf (fun q hq => absurd hq (Nat.not_lt_zero _)) (fun q _ => pw_oth (fun z _ => by omega))
theorem tX10_back {x : Int32} (hw : w.1 = cs t) (hg : WG g) (hR : RM g w) (k0 : ¬ (V 3 x ∧ (gU g).testBit (N x) = true) → Q (some (.int (-1))) w) (k1 : V 3 x → (gU g).testBit (N x) = true → ∀ w', RM (gBak g x) w' → agM w w' → Q (some (.int (nI (sD (gX g (N x)))))) w') : px_Call E (d + 20) 0 0 mX10_back [.ref 61, .int x] w Q := by
  have np := hg.1.1
  have hB := hR.2.2.2.2.1
  have no : ¬ (V 3 x ∧ (gU g).testBit (N x) = true) → px_W E mX10_back (d + 20) 0 0 16 [.null, .null, .null] [] w Q := fun q => bX10_back_16 hw (k0 q)
  refine eX10_back hw (fun a => no (fun q => a q.1)) (fun a => ?_)
  have va : V 3 x := a
  have kk := k1 va
  obtain ⟨j, hj, rfl, ej⟩ := V_of (by decide) va
  obtain ⟨b1, b2⟩ := hB j hj
  unfold gBak at kk
  rw [ej] at kk
  refine bX10_back_7 hw j rfl hj (fun z => ?_) (fun z => no (fun q => ?_)) <;> rw [b1, jb_eq0] at z
  · have z := Classical.not_not.mp z
    have key : ∀ i, i ≤ 15 → ∀ w2, ag [89] w w2 → (∀ q, q < i → pw_I w2 89 q = pw_I w 107 (15 * j + q)) → px_W E mX10_back (d + 20) 0 0 20 [.ref 61, .int (nI j), .int (nI i)] [] w2 Q := by
      refine za_up 15 _ (fun i hi ih => ?_)
      intro w2 a2 f2
      have hw2 := a2.1.trans hw
      refine bX10_back_20 hw2 (fun q => ?_) (fun q => ?_)
      · have : i = 15 := by have := za_le (a := 15) (by omega) (by omega) q; omega
        subst this
        refine bX10_back_49 hw2 ?_
        have S2 : RMS (gH g) (gX g j) w2 89 := (b2 z).s np f2
        rw [S2.2.2.2.1]
        have A0 : agF [] [63, 64] w2 (pw_sI (pw_sI w2 61 63 0) 61 64 0) := (agF.sI (by decide)).tr (agF.sI (by decide))
        have q := hR.actK (w' := pw_sI (pw_sI w2 61 63 0) 61 64 0) (R := fun _ => gX g j) (a := 0) (b := 0) hg ((agF.of (a2.mono (by simp))).tr (A0.mono (by simp) (by simp))) (S2.agF np A0 (by decide) (by decide)) (fun i hi => absurd hi (Nat.not_lt_zero _)) (by rw [pw_oth (fun _ z => by omega), pw_same]; rfl) (by rw [pw_same]; rfl)
        exact kk z _ q.1 q.2
      · have hlt : i < 15 := za_nle (a := 15) (by omega) (by omega) q
        refine bX10_back_26 hw2 (15 * j + i) (by rw [show (15 : Int32) = nI 15 from rfl, pk_mul, nI_add]) (by omega) i rfl hlt ?_
        rw [nI_1]
        refine ih hlt _ (a2.tr (ag.sI (by decide))) (fun q hq => ?_)
        by_cases eq : q = i
        · subst eq; rw [pw_same]; exact a2.I (by decide) _
        · rw [pw_oth (fun _ z => eq z)]; exact f2 q (by omega)
    exact key 0 (by omega) w ag.rf (fun q hq => absurd hq (Nat.not_lt_zero _))
  · rw [ej] at q; exact z q.2
end MP
