/-! the class's calls, the rest but hamlet -/
def fPe (v y : Int32) : Int32 := if v = -1 then -1 else if y = 0 then hJ6_bitCount_0f7a4 v else v
def fRounds (g : GG) (x y : Int32) : Int32 := nI (aBO (gH g) (gS g) (N x) (N y)).1
def gRounds (g : GG) (x y : Int32) : GG := gLie g (fun k => nI (lG (aBO (gH g) (gS g) (N x) (N y)).2 k)) (aRs (gH g) (N x))
def gEvn (g : GG) (m x : Nat) : GG := gLie g (fun i => nI (dgt m (aNp (gH g)) x i)) (aNp (gH g))
/-- how many rests of the first k ways, and the first of them -/
def aDu (h : aH) (s : aS) (i : Nat) : Nat → Nat × Nat
  | 0 => (0, 0)
  | k + 1 => if aRst h s i (k / 2) (k % 2) then ((aDu h s i k).1 + 1, if (aDu h s i k).1 = 0 then k else (aDu h s i k).2) else aDu h s i k
theorem aDu_s (h : aH) (s : aS) (i k : Nat) : aDu h s i (k + 1) = if aRst h s i (k / 2) (k % 2) then ((aDu h s i k).1 + 1, if (aDu h s i k).1 = 0 then k else (aDu h s i k).2) else aDu h s i k := rfl
theorem aDu_le (h : aH) (s : aS) (i : Nat) : ∀ k, (aDu h s i k).1 ≤ k
  | 0 => Nat.le_refl _
  | k + 1 => by
    have := aDu_le h s i k
    rw [aDu_s]
    split
    · show (aDu h s i k).1 + 1 ≤ k + 1; omega
    · omega
def duY (q : Nat) : Nat → Int32 := fun i => if i = 0 then nI (q / 2) else nI (q % 2)
def gDuel (g : GG) (u : Nat × Nat) : GG := if u.1 = 0 then gLie g (gY g) 0 else gLie g (duY u.2) 2
def fFits (g : GG) (k : Int32) : Int32 := if aNp (gH g) = 0 then 0 else nI (aCtK (fun v => aAgK (gH g) (gG g) v k (gN g)) 31)
def aSuK (f : Nat → Bool) (y : Int32) : Nat → Int32
  | 0 => -1
  | v + 1 => if f v = true ∧ (y = 1 ∨ aSuK f y v = -1) then nI v else aSuK f y v
theorem aSuK_s (f : Nat → Bool) (y : Int32) (v : Nat) : aSuK f y (v + 1) = if f v = true ∧ (y = 1 ∨ aSuK f y v = -1) then nI v else aSuK f y v := rfl
theorem aSuK_r (f : Nat → Bool) (y : Int32) : ∀ v, aSuK f y v = -1 ∨ ∃ j, j < v ∧ aSuK f y v = nI j
  | 0 => Or.inl rfl
  | v + 1 => by
    rw [aSuK_s]
    split
    · exact Or.inr ⟨v, by omega, rfl⟩
    · rcases aSuK_r f y v with z | ⟨j, h1, h2⟩
      · exact Or.inl z
      · exact Or.inr ⟨j, by omega, h2⟩
def fSure (g : GG) (y k : Int32) : Int32 := if z1 y ∧ 0 < aNp (gH g) then aSuK (fun v => aAgK (gH g) (gG g) v k (gN g)) y 31 else -1
def fAsk (g : GG) (x y k : Int32) : Int32 := if V 15 x ∧ z1 y ∧ aFt (gH g) (gG g) (gN g) k ≠ 0 then (if y = 0 then nI (aAs (aLf (gH g) (gG g) (gN g) k (N x)) (aNp (gH g) - 1)) else nI (aLf (gH g) (gG g) (gN g) k (N x) (aAs (aLf (gH g) (gG g) (gN g) k (N x)) (aNp (gH g) - 1)))) else -1
def seeQ (q : aG) (n a b c e f : Nat) : aG := fun k j => if j = n then [a, b, c, e, f, 0].getD k 0 else q k j
theorem seeQ_n {q : aG} {n a b c e f k : Nat} : seeQ q n a b c e f k n = [a, b, c, e, f, 0].getD k 0 := if_pos rfl
theorem seeQ_o {q : aG} {n a b c e f k j : Nat} (h : j ≠ n) : seeQ q n a b c e f k j = q k j := if_neg h
def untQ (q : aG) (n v : Nat) : aG := fun k j => if k = 5 ∧ j = n then v else q k j
theorem untQ_n {q : aG} {n v : Nat} : untQ q n v 5 n = v := if_pos ⟨rfl, rfl⟩
theorem untQ_o {q : aG} {n v k j : Nat} (h : ¬ (k = 5 ∧ j = n)) : untQ q n v k j = q k j := if_neg h
def gSeen (g : GG) (x y z u : Int32) : GG := gSee g (seeQ (gG g) (gN g) (N x) (N y) (N z) (N u) (gT g)) (gN g + 1) (gT g)
def gUnt (g : GG) (x : Int32) : GG := gSee g (untQ (gG g) (N x) (gT g + 1)) (gN g) (gT g)
def gImg (g : GG) (x : Int32) : GG := gBox g (za_u (gX g) (N x) (gS g)) (gU g ||| 2 ^ N x)
def gBak (g : GG) (x : Int32) : GG := gAct g (gX g (N x)) (fun _ => gX g (N x)) 0 0
section XP
variable {E : px_E} {d : Nat} {w : pw_W} {Q : Option Value → pw_W → Prop} {t : ct_T} {g : GG}
theorem tX9_peace {x y : Int32} (hg : WG g) (hR : RX t g w) (k0 : ¬ (V 15 x ∧ z1 y) → Q (some (.int (-1))) w) (k1 : V 15 x → z1 y → ∀ w' v, RX t g w' → agX w w' → aPeA (gH g) (gS g) (N x) v → Q (some (.int (fPe v y))) w') : px_Call E (d + 20) 0 0 mX9_peace [.ref 1, .int x, .int y] w Q := by
  have hw := hR.1
  have h1 := hR.2.1.1
  have hd := hg.s.2
  have no : ¬ (V 15 x ∧ z1 y) → px_W E mX9_peace (d + 20) 0 0 16 [.null, .null, .null, .null] [] w Q := fun q => bX9_peace_16 hw h1 (k0 q)
  refine eX9_peace hw h1 (fun a => no (fun q => a ((isW (n := 14) (by decide) x).mpr q.1))) (fun a b => ?_) (fun a b => no (fun q => b q.2))
  have va := (isW (n := 14) (by decide) x).mp a
  obtain ⟨n, hn, rfl, en⟩ := V_of (by decide) va
  rw [en] at k1
  refine tX4_leastToForbid hw h1 hR.2.2.1 hR.2.2.2.1 hg.1 hg.s.1 (by omega) (fun w' v a' p' => ?_)
  obtain ⟨R', x'⟩ := hR.k hg a' sc4
  have kk := k1 va b w' v R' x' p'
  unfold fPe at kk
  refine bX9_peace_34 R'.1 h1 (fun q1 q2 => ?_) (fun q1 q2 => ?_) (fun q1 => ?_)
  · rw [if_neg q1, if_neg q2] at kk; exact bX9_peace_54 R'.1 h1 kk
  · rw [if_neg q1, if_pos q2] at kk; exact bX9_peace_54 R'.1 h1 kk
  · rw [if_pos q1] at kk; exact kk
theorem tX9_rounds {x y : Int32} (hg : WG g) (hR : RX t g w) (k0 : ¬ (V (aNb (gH g)) x ∧ V 15 y) → ∀ w', RX t (gLie g (gY g) 0) w' → agX w w' → Q (some (.int (-1))) w') (k1 : V (aNb (gH g)) x → V 15 y → ∀ w', RX t (gRounds g x y) w' → agX w w' → Q (some (.int (fRounds g x y))) w') : px_Call E (d + 20) 0 0 mX9_rounds [.ref 1, .int x, .int y] w Q := by
  have nb := hg.1.2.2.1
  have h1 := hR.2.1.1
  have hd := hg.s.2
  have L0 := hR.lieK (w' := pw_sI w 1 14 0) (y := gY g) (c := 0) hg (ag.sI (by simp)) (fun j hj => pw_oth (fun _ z => hj z)) pw_same (fun i hi => absurd hi (Nat.not_lt_zero _))
  have R0 := L0.1
  have W0 : WG (gLie g (gY g) 0) := hg.lie (by decide)
  have no : ¬ (V (aNb (gH g)) x ∧ V 15 y) → px_W E mX9_rounds (d + 20) 0 0 22 [.null, .null, .null, .null] [] (pw_sI w 1 14 0) Q := fun q => bX9_rounds_22 R0.1 h1 (k0 q _ R0 L0.2)
  refine eX9_rounds hR.1 h1 (fun a => no (fun q => a ((R0.isB x).mpr q.1))) (fun a b => ?_) (fun a b => no (fun q => b ((isW (n := 14) (by decide) y).mpr q.2)))
  have va : V (aNb (gH g)) x := (R0.isB x).mp a
  have vb := (isW (n := 14) (by decide) y).mp b
  have kk := k1 va vb
  unfold fRounds gRounds at kk
  obtain ⟨i, hi, rfl, ei⟩ := V_of (by omega) va
  obtain ⟨n, hn, rfl, en⟩ := V_of (by decide) vb
  rw [ei, en] at kk
  refine tX4_bestOrder R0.1 h1 R0.2.2.1 R0.2.2.2.1 hg.1 hg.s.1 hi (show sD (gS g) + n < 5000 by omega) (fun w' a' O' => ?_)
  have hw' := a'.1.trans R0.1
  have n8 : t.1 + 8 ∉ [42, 43, 44, 45, 60, t.1 + 12] := xd_B h1 (by decide)
  have n1 : 1 ∉ [42, 43, 44, 45, 60, t.1 + 12] := by rcases h1 with e | e <;> rw [e] <;> decide
  refine bX9_rounds_45 hw' h1 i rfl (by omega) ?_
  rw [a'.I n8, (R0.2.2.1.2.2.2.1 i hi).2]
  have len : (aBO (gH g) (gS g) i n).2.length = aRs (gH g) i := by
    unfold aBO
    have l0 := lSK_len (aRs (gH g) i) (hg.1.2.2.2.2.2.2.2.2.2.1 i hi).2.2 _ (roL_in hg.1 hi)
    have fl : oHu (gH g) (gS g) i n (lSK (roL (gH g) i) 6) < 1000 := oHu_lt hg.1 hg.s.1 (by omega)
    have lb := lSK_B (roL_B hg.1 hi) 6
    have e1 := boK_first (f := oHu (gH g) (gS g) i n) (m := 719) (l := lSK (roL (gH g) i) 6) (q := (1000000, [])) (q' := (1000000, lSK (roL (gH g) i) 6)) (by show _ < 1000000; omega) (by show _ < 1000000; omega)
    rw [e1]
    have := (boK_len (f := oHu (gH g) (gS g) i n) 720 (lSK (roL (gH g) i) 6) (1000000, lSK (roL (gH g) i) 6) rfl lb lb).1
    rw [this, l0]
  have q := hR.lieK (w' := pw_sI w' 1 14 (nI (aRs (gH g) i))) (y := fun k => nI (lG (aBO (gH g) (gS g) i n).2 k)) (c := aRs (gH g) i) hg (((ag.sI (by simp)).tr (a'.mono (by intro a; simp; omega))).tr (ag.sI (by simp))) (fun j hj => by rw [pw_oth (fun _ z => hj z), a'.I n1, pw_oth (fun _ z => hj z)]) pw_same (fun j hj => by
    rw [pw_oth (fun z _ => by omega)]
    have := O' j (by show j < (aBO (gH g) (gS g) i n).2.length; omega)
    rw [Nat.zero_add] at this
    exact this)
  exact kk _ q.1 q.2
theorem tX9_evenings (hg : WG g) (hR : RX t g w) (k : ∀ w' m x, aEvn (gH g) (sB (gS g)) m x → RX t (gEvn g m x) w' → agX w w' → Q (some (.int (nI m))) w') : px_Call E (d + 20) 0 0 mX9_evenings [.ref 1] w Q := by
  have h1 := hR.2.1.1
  refine eX9_evenings hR.1 h1 ?_
  rw [hR.2.2.2.1.2.2.1]
  refine tX0_fewestGroups hR.1 h1 hR.2.2.1 hg.1 hg.s.1.2.1 (fun w' m x a' e' y' => ?_)
  have hw' := a'.1.trans hR.1
  have n0 : t.1 ∉ [47, 60] := by rcases h1 with e | e <;> rw [e] <;> decide
  refine bX9_evenings_22 hw' h1 ?_
  rw [a'.I n0, hR.2.2.1.1.1]
  have q := hR.lieK (w' := pw_sI w' 1 14 (nI (aNp (gH g)))) (y := fun i => nI (dgt m (aNp (gH g)) x i)) (c := aNp (gH g)) hg ((a'.mono (by intro a; simp; omega)).tr (ag.sI (by simp))) (fun j hj => by rw [pw_oth (fun _ z => hj z), a'.I (by decide)]) pw_same (fun j hj => by rw [pw_oth (fun z _ => by omega)]; exact y' j hj)
  exact k _ m x e' q.1 q.2
theorem tX9_duel {x : Int32} (hg : WG g) (hR : RX t g w) (k0 : ¬ V (aNm (gH g)) x → ∀ w', RX t (gLie g (gY g) 0) w' → agX w w' → Q (some (.int (-1))) w') (k1 : V (aNm (gH g)) x → ∀ w', RX t (gDuel g (aDu (gH g) (gS g) (N x) 4)) w' → agX w w' → Q (some (.int (nI (aDu (gH g) (gS g) (N x) 4).1))) w') : px_Call E (d + 20) 0 0 mX9_duel [.ref 1, .int x] w Q := by
  have nm := hg.1.2.1
  have h1 := hR.2.1.1
  have L0 := hR.lieK (w' := pw_sI w 1 14 0) (y := gY g) (c := 0) hg (ag.sI (by simp)) (fun j hj => pw_oth (fun _ z => hj z)) pw_same (fun i hi => absurd hi (Nat.not_lt_zero _))
  have R0 := L0.1
  have W0 : WG (gLie g (gY g) 0) := hg.lie (by decide)
  refine eX9_duel hR.1 h1 (fun a => ?_) (fun a => k0 (fun q => a ((R0.isM x).mpr q)) _ R0 L0.2)
  have va : V (aNm (gH g)) x := (R0.isM x).mp a
  have kk := k1 va
  obtain ⟨i, hi, rfl, ei⟩ := V_of (by omega) va
  rw [ei] at kk
  have key : ∀ j, j ≤ 4 → ∀ w1, RX t (gDuel g (aDu (gH g) (gS g) i j)) w1 → agX w w1 → px_W E mX9_duel (d + 20) 0 0 19 [.ref 1, .int (nI i), .int (nI (aDu (gH g) (gS g) i j).1), .int (nI j)] [] w1 Q := by
    refine za_up 4 _ (fun j hj ih => ?_)
    intro w1 R1 x1
    have dl := aDu_le (gH g) (gS g) i j
    have W1 : WG (gDuel g (aDu (gH g) (gS g) i j)) := by
      unfold gDuel
      split
      · exact hg.lie (by decide)
      · exact hg.lie (by decide)
    have eH : gH (gDuel g (aDu (gH g) (gS g) i j)) = gH g := by unfold gDuel; split <;> rfl
    have eS : gS (gDuel g (aDu (gH g) (gS g) i j)) = gS g := by unfold gDuel; split <;> rfl
    refine bX9_duel_19 R1.1 h1 (fun z => ?_) (fun z => ?_)
    · have : j = 4 := by have := za_le (a := 4) (by omega) (by omega) z; omega
      subst this
      exact kk w1 R1 x1
    · have jl : j < 4 := za_nle (a := 4) (by omega) (by omega) z
      have e1 : js_shr (nI j) 1 = nI (j / 2) ∧ nI j &&& 1 = nI (j % 2) := by
        have : ∀ j, j < 4 → js_shr (nI j) 1 = nI (j / 2) ∧ nI j &&& 1 = nI (j % 2) := by decide
        exact this j jl
      rw [e1.1, e1.2]
      have H1 := R1.2.2.1
      have S1 := R1.2.2.2.1
      rw [eH] at H1 S1
      rw [eS] at S1
      refine tX4_isRest R1.1 h1 H1 S1 hg.1 hg.s.1 hi (by omega) (by omega) (fun w2 a2 => ?_)
      have hs : ∀ a ∈ [t.1 + 12], a ∈ xsc t := by intro a ha; rw [List.mem_singleton.mp ha]; simp
      obtain ⟨R2, x2⟩ := R1.k W1 a2 hs
      have ih := ih jl
      rw [aDu_s] at ih
      refine bX9_duel_46 R2.1 h1 (fun y => ?_) (fun y1 y2 => ?_) (fun y1 y2 => ?_)
      · rw [if_neg (jb_eq0.mp y)] at ih
        refine bX9_duel_79 R2.1 h1 ?_
        rw [nI_1]
        exact ih w2 R2 (x1.tr x2)
      · have y1 : aRst (gH g) (gS g) i (j / 2) (j % 2) := Classical.not_not.mp (fun q => y1 (jb_eq0.mpr q))
        have y2 : (aDu (gH g) (gS g) i j).1 ≠ 0 := za_ne (b := 0) (by omega) (by omega) y2
        rw [if_pos y1, if_neg y2] at ih
        refine bX9_duel_76 R2.1 h1 (bX9_duel_79 R2.1 h1 ?_)
        rw [nI_1, nI_1]
        refine ih w2 ?_ (x1.tr x2)
        unfold gDuel at R2 ⊢
        rw [if_neg y2] at R2
        rw [if_neg (by show ¬ (aDu (gH g) (gS g) i j).1 + 1 = 0; omega)]
        exact R2
      · have y1 : aRst (gH g) (gS g) i (j / 2) (j % 2) := Classical.not_not.mp (fun q => y1 (jb_eq0.mpr q))
        have y2 : (aDu (gH g) (gS g) i j).1 = 0 := za_eq (b := 0) (by omega) (by omega) y2
        rw [if_pos y1, if_pos y2] at ih
        refine bX9_duel_53 R2.1 h1 ?_
        rw [e1.1, e1.2]
        have q := R2.lieK (w' := pw_sI (pw_sI (pw_sI w2 60 0 (nI (j / 2))) 60 1 (nI (j % 2))) 1 14 2) (y := duY j) (c := 2) W1 (((ag.sI (by simp)).tr (ag.sI (by simp))).tr (ag.sI (by simp))) (fun q hq => by rw [pw_oth (fun _ z => hq z), pw_oth (fun z _ => by omega), pw_oth (fun z _ => by omega)]) pw_same (fun q hq => by
          rw [pw_oth (fun z _ => by omega)]
          match q, hq with
          | 0, _ => rw [pw_oth (fun _ z => by omega), pw_same]; rfl
          | 1, _ => rw [pw_same]; rfl)
        refine bX9_duel_76 q.1.1 h1 (bX9_duel_79 q.1.1 h1 ?_)
        rw [nI_1, nI_1]
        refine ih _ ?_ (x1.tr (x2.tr q.2))
        have q1 := q.1
        unfold gDuel at q1 ⊢
        rw [if_pos y2] at q1
        rw [if_neg (by show ¬ (aDu (gH g) (gS g) i j).1 + 1 = 0; omega)]
        exact q1
  exact key 0 (by omega) _ R0 L0.2
/-- behind a call of fitting -/
theorem RX.fit {k' : Int32} (hg : WG g) (hR : RX t g w) (k : ∀ w', RX t g w' → agX w w' → (0 < aNp (gH g) → XCf (gH g) w' 31) → Q (some (.int (nI (aFt (gH g) (gG g) (gN g) k')))) w') : px_Call E (d + 7) 0 0 mX7_fitting [.ref 48, .ref t.1, .int k'] w Q := by
  obtain ⟨hw, ht, hH, hS, hL, hB, hG, hC, hY, hT, hF, hK⟩ := id hR
  have np := hg.1.1
  have h0 := ht.1
  refine tX7_fitting hw h0 hH hg.1 hG hg.2.2.2.1 hC (fun w' a' G' C' D' => k w' ?_ (a'.x ?_) D')
  · have m : ∀ a ∈ [1, 2, 18, 35, 36, 37, 38, 39, 40, 60], a ∉ [48, 55, 57, 58, 59, t.1 + 12] := by
      rcases h0 with e | e <;> rw [e] <;> decide
    exact ⟨a'.1.trans hw, ht, hH.ag a' (fun k hk => xd_F h0 hk), hS.ag a' (m 35 (by decide)) (m 36 (by decide)) (m 37 (by decide)), hL.ag np a' ⟨m 38 (by decide), m 39 (by decide)⟩, hB.ag np a' (m 40 (by decide)), G', C', hY.ag a' (m 60 (by decide)), hT.ag a' (m 2 (by decide)), hF.ag a' (m 1 (by decide)), hK.ag a' (m 18 (by decide))⟩
  · rcases h0 with e | e <;> rw [e] <;> decide
theorem tX9_fits {x : Int32} (hg : WG g) (hR : RX t g w) (k : ∀ w', RX t g w' → agX w w' → Q (some (.int (fFits g x))) w') : px_Call E (d + 20) 0 0 mX9_fits [.ref 1, .int x] w Q := by
  refine eX9_fits hR.1 hR.2.1.1 (RX.fit hg hR (fun w' R' x' _ => ?_))
  refine bX9_fits_12 R'.1 hR.2.1.1 ?_
  have kk := k w' R' x'
  unfold fFits at kk
  unfold aFt
  by_cases z : aNp (gH g) = 0
  · rw [if_pos z] at kk ⊢
    exact kk
  · rw [if_neg z] at kk ⊢
    rw [bcFt]
    exact kk
theorem aFt_b {v : Nat} {x : Int32} (hz : 0 < aNp (gH g)) (hv : v < 31) : js_shr (nI (aFt (gH g) (gG g) (gN g) x)) (nI v) &&& 1 = 1 ↔ aAgK (gH g) (gG g) v x (gN g) = true := by
  have fl := aFt_lt (h := gH g) (g := gG g) (n := gN g) (k := x)
  rw [za_tb1 fl (by omega)]
  unfold aFt
  rw [if_neg (by omega), aFtK_bit]
  simp [hv]
theorem tX9_sure {y x : Int32} (hg : WG g) (hR : RX t g w) (k : ∀ w', RX t g w' → agX w w' → Q (some (.int (fSure g y x))) w') : px_Call E (d + 20) 0 0 mX9_sure [.ref 1, .int y, .int x] w Q := by
  have h1 := hR.2.1.1
  refine eX9_sure hR.1 h1 (fun a => RX.fit hg hR (fun w' R' x' _ => ?_)) (fun a => ?_)
  · refine bX9_sure_21 R'.1 h1 ?_
    have kk := k w' R' x'
    unfold fSure at kk
    by_cases z : 0 < aNp (gH g)
    · rw [if_pos ⟨a, z⟩] at kk
      have key : ∀ v, v ≤ 31 → px_W E mX9_sure (d + 20) 0 0 28 [.null, .int y, .null, .int (nI (aFt (gH g) (gG g) (gN g) x)), .int (aSuK (fun v => aAgK (gH g) (gG g) v x (gN g)) y v), .int (nI v), .null] [] w' Q := by
        refine za_up 31 _ (fun v hv ih => ?_)
        have nxt : v < 31 → ∀ q, aSuK (fun v => aAgK (gH g) (gG g) v x (gN g)) y (v + 1) = q → px_W E mX9_sure (d + 20) 0 0 72 [.null, .int y, .null, .int (nI (aFt (gH g) (gG g) (gN g) x)), .int q, .int (nI v), .null] [] w' Q := by
          intro vl q e
          refine bX9_sure_72 R'.1 h1 ?_
          rw [nI_1, ← e]
          exact ih vl
        refine bX9_sure_28 R'.1 h1 (fun q => ?_) (fun q b => ?_) (fun q b => ?_)
        · have : v = 31 := by have := za_lt (a := 30) (by omega) (by omega) q; omega
          subst this
          exact kk
        · have vl : v < 31 := by have := za_nlt (a := 30) (by omega) (by omega) q; omega
          rw [aFt_b z vl] at b
          refine bX9_sure_50 R'.1 h1 (fun _ => nxt vl _ (by rw [aSuK_s, if_neg (fun u => b u.1)])) (fun u => absurd rfl u) (fun u => absurd rfl u) (fun u => absurd rfl u)
        · have vl : v < 31 := by have := za_nlt (a := 30) (by omega) (by omega) q; omega
          rw [aFt_b z vl] at b
          refine bX9_sure_50 R'.1 h1 (fun u => absurd u (by decide)) (fun _ u => bX9_sure_68 R'.1 h1 (nxt vl _ (by rw [aSuK_s, if_pos ⟨b, Or.inl u⟩]))) (fun _ u1 u2 => nxt vl _ (by rw [aSuK_s, if_neg (fun u => u.2.elim u1 u2)])) (fun _ u1 u2 => bX9_sure_68 R'.1 h1 (nxt vl _ (by rw [aSuK_s, if_pos ⟨b, Or.inr u2⟩])))
      exact key 0 (by omega)
    · rw [if_neg (fun q => z q.2)] at kk
      have e0 : aFt (gH g) (gG g) (gN g) x = 0 := by unfold aFt; rw [if_pos (by omega)]
      rw [e0]
      have key : ∀ v, v ≤ 31 → px_W E mX9_sure (d + 20) 0 0 28 [.null, .int y, .null, .int (nI 0), .int (-1), .int (nI v), .null] [] w' Q := by
        refine za_up 31 _ (fun v hv ih => ?_)
        refine bX9_sure_28 R'.1 h1 (fun _ => kk) (fun q b => ?_) (fun q b => ?_)
        · have vl : v < 31 := by have := za_nlt (a := 30) (by omega) (by omega) q; omega
          refine bX9_sure_50 R'.1 h1 (fun _ => bX9_sure_72 R'.1 h1 ?_) (fun u => absurd rfl u) (fun u => absurd rfl u) (fun u => absurd rfl u)
          rw [nI_1]
          exact ih vl
        · have vl : v < 31 := by have := za_nlt (a := 30) (by omega) (by omega) q; omega
          rw [za_tb1 (by decide) (by omega), Nat.zero_testBit] at b
          cases b
      exact key 0 (by omega)
  · have kk := k w hR agX.rf
    unfold fSure at kk
    rw [if_neg (fun q => a q.1)] at kk
    exact kk
theorem tX9_ask {x y z : Int32} (hg : WG g) (hR : RX t g w) (k : ∀ w', RX t g w' → agX w w' → Q (some (.int (fAsk g x y z))) w') : px_Call E (d + 20) 0 0 mX9_ask [.ref 1, .int x, .int y, .int z] w Q := by
  have h1 := hR.2.1.1
  have np := hg.1.1
  unfold fAsk at k
  have no : ¬ (V 15 x ∧ z1 y ∧ aFt (gH g) (gG g) (gN g) z ≠ 0) → px_W E mX9_ask (d + 20) 0 0 16 [.null, .null, .null, .null, .null, .null, .null, .null, .null] [] w Q := fun q => bX9_ask_16 hR.1 h1 (by have := k w hR agX.rf; rw [if_neg q] at this; exact this)
  refine eX9_ask hR.1 h1 (fun a => no (fun q => a ((isW (n := 14) (by decide) x).mpr q.1))) (fun a b => ?_) (fun a b => no (fun q => b q.2.1))
  have va := (isW (n := 14) (by decide) x).mp a
  refine RX.fit hg hR (fun w1 R1 x1 C1 => ?_)
  have fl := aFt_lt (h := gH g) (g := gG g) (n := gN g) (k := z)
  refine bX9_ask_30 R1.1 h1 (fun q => ?_) (fun q => ?_)
  · have q : aFt (gH g) (gG g) (gN g) z ≠ 0 := za_ne (b := 0) fl (by omega) q
    have hz : 0 < aNp (gH g) := by
      by_cases u : aNp (gH g) = 0
      · exact absurd (by unfold aFt; rw [if_pos u]) q
      · omega
    rw [if_pos ⟨va, b, q⟩] at k
    obtain ⟨e, he, rfl, ee⟩ := V_of (by decide) va
    rw [ee] at k
    have C1 := C1 hz
    have f31 : ∀ p, aLf (gH g) (gG g) (gN g) z e p ≤ 31 := fun p => (aLfK_le _ _ 31).2
    have as_le : ∀ (f : Nat → Nat) k, aAs f k ≤ k := by
      intro f k
      induction k with
      | zero => exact Nat.le_refl _
      | succ k ih => show (if f (k + 1) < f (aAs f k) then k + 1 else aAs f k) ≤ k + 1; split <;> omega
    have key : ∀ i, i ≤ aNp (gH g) → ∀ w2, RX t g w2 → agX w w2 → XCf (gH g) w2 31 → ∀ b1 b2 : Int32, (i = 0 → b1 = -1 ∧ b2 = 32) → (0 < i → b1 = nI (aAs (aLf (gH g) (gG g) (gN g) z e) (i - 1)) ∧ b2 = nI (aLf (gH g) (gG g) (gN g) z e (aAs (aLf (gH g) (gG g) (gN g) z e) (i - 1)))) → px_W E mX9_ask (d + 20) 0 0 49 [.ref 1, .int (nI e), .int y, .null, .int (nI (aFt (gH g) (gG g) (gN g) z)), .int b1, .int b2, .int (nI i), .null] [] w2 Q := by
      refine za_up _ _ (fun i hi ih => ?_)
      intro w2 R2 x2 C2 b1 b2 i0 i1
      refine bX9_ask_49 R2.1 h1 (fun u v => ?_) (fun u v => ?_) (fun u => ?_) <;> rw [R2.2.2.1.1.1] at u
      · have : i = aNp (gH g) := by have := za_le (by omega) (by omega) u; omega
        subst this
        have kk := k w2 R2 x2
        rw [if_neg v, ← (i1 hz).2] at kk
        exact bX9_ask_107 R2.1 h1 kk
      · have : i = aNp (gH g) := by have := za_le (by omega) (by omega) u; omega
        subst this
        have kk := k w2 R2 x2
        rw [if_pos v, ← (i1 hz).1] at kk
        exact bX9_ask_107 R2.1 h1 kk
      · have hlt : i < aNp (gH g) := za_nle (by omega) (by omega) u
        refine tX7_mostLeft R2.1 hg.1 C2 (by omega) hlt (fun w3 a3 => ?_)
        have hs : ∀ a ∈ [56], a ∈ xsc t := by intro a ha; rw [List.mem_singleton.mp ha]; simp
        obtain ⟨R3, x3⟩ := R2.k hg a3 hs
        have C3 := C2.ag a3 (by decide)
        have fi := f31 i
        by_cases iz : i = 0
        · subst iz
          obtain ⟨rfl, rfl⟩ := i0 rfl
          refine bX9_ask_73 R3.1 h1 (fun v => ?_) (fun v => bX9_ask_90 R3.1 h1 ?_)
          · have := za_le (a := 32) (by omega) (by omega) v
            omega
          · rw [nI_1]
            exact ih hlt w3 R3 (x2.tr x3) C3 _ _ (fun z => by omega) (fun _ => ⟨rfl, rfl⟩)
        · obtain ⟨rfl, rfl⟩ := i1 (by omega)
          have fb := f31 (aAs (aLf (gH g) (gG g) (gN g) z e) (i - 1))
          have es : aAs (aLf (gH g) (gG g) (gN g) z e) (i + 1 - 1) = if aLf (gH g) (gG g) (gN g) z e i < aLf (gH g) (gG g) (gN g) z e (aAs (aLf (gH g) (gG g) (gN g) z e) (i - 1)) then i else aAs (aLf (gH g) (gG g) (gN g) z e) (i - 1) := by
            have : i + 1 - 1 = (i - 1) + 1 := by omega
            rw [this]
            show (if aLf (gH g) (gG g) (gN g) z e (i - 1 + 1) < _ then i - 1 + 1 else _) = _
            rw [show i - 1 + 1 = i by omega]
          refine bX9_ask_73 R3.1 h1 (fun v => bX9_ask_90 R3.1 h1 ?_) (fun v => bX9_ask_90 R3.1 h1 ?_) <;> rw [nI_1]
          · have v := za_le (by omega) (by omega) v
            rw [if_neg (by omega)] at es
            exact ih hlt w3 R3 (x2.tr x3) C3 _ _ (fun z => by omega) (fun _ => by rw [es]; exact ⟨rfl, rfl⟩)
          · have v := za_nle (by omega) (by omega) v
            rw [if_pos (by omega)] at es
            exact ih hlt w3 R3 (x2.tr x3) C3 _ _ (fun z => by omega) (fun _ => by rw [es]; exact ⟨rfl, rfl⟩)
    exact key 0 (by omega) w1 R1 x1 C1 _ _ (fun _ => ⟨rfl, rfl⟩) (fun z => absurd z (by decide))
  · have q : aFt (gH g) (gG g) (gN g) z = 0 := za_eq (b := 0) fl (by omega) q
    have kk := k w1 R1 x1
    rw [if_neg (fun u => u.2.2 q)] at kk
    exact kk
theorem RX.seeK {w' : pw_W} {q : aG} {n tm : Nat} (hg : WG g) (hR : RX t g w) (ha : ag [48, 49, 50, 51, 52, 53, 54] w w') (h7 : pw_I w' 48 7 = pw_I w 48 7) (hG : XSg q n tm w') : RX t (gSee g q n tm) w' ∧ agX w w' := by
  obtain ⟨hw, ht, hH, hS, hL, hB, -, hC, hY, hT, hF, hK⟩ := hR
  have np := hg.1.1
  have nh : ∀ k, k ≤ 11 → t.1 + k ∉ [48, 49, 50, 51, 52, 53, 54] := by
    intro k hk
    rcases ht.1 with e | e <;> rw [e] <;> simp <;> omega
  refine ⟨⟨ha.1.trans hw, ht, hH.ag ha nh, hS.ag ha (by decide) (by decide) (by decide), hL.ag np ha (by decide), hB.ag np ha (by decide), hG, ?_, hY.ag ha (by decide), hT.ag ha (by decide), hF.ag ha (by decide), hK.ag ha (by decide)⟩, ha.x (by decide)⟩
  rcases hC with z | ⟨z1, z2⟩
  · exact Or.inl (h7.trans z)
  · exact Or.inr ⟨h7.trans z1, z2.ag ha (by decide)⟩
theorem tX9_seen {x y z u : Int32} (hg : WG g) (hR : RX t g w) (hu : z1 u) (k0 : ¬ (V 15 x ∧ V (aNp (gH g)) y ∧ V 100 z ∧ gN g < 30) → Q (some (.int (-1))) w) (k1 : V 15 x → V (aNp (gH g)) y → V 100 z → gN g < 30 → ∀ w', RX t (gSeen g x y z u) w' → agX w w' → Q (some (.int (nI (gN g)))) w') : px_Call E (d + 20) 0 0 mX9_seen [.ref 1, .int x, .int y, .int z, .int u] w Q := by
  have np := hg.1.1
  have h1 := hR.2.1.1
  have hG := hR.2.2.2.2.2.2.1
  have n30 := hg.2.2.2.1.1
  have no : ¬ (V 15 x ∧ V (aNp (gH g)) y ∧ V 100 z ∧ gN g < 30) → px_W E mX9_seen (d + 20) 0 0 26 [.null, .null, .null, .null, .null] [] w Q := fun q => bX9_seen_26 hR.1 h1 (k0 q)
  refine eX9_seen hR.1 h1 (fun a => no (fun q => a ((isW (n := 14) (by decide) x).mpr q.1))) (fun a b => no (fun q => b ((hR.isP y).mpr q.2.1))) (fun a b c => ?_) (fun a b c => no (fun q => c ((isW (n := 99) (by decide) z).mpr q.2.2.1)))
  have va := (isW (n := 14) (by decide) x).mp a
  have vb := (hR.isP y).mp b
  have vc := (isW (n := 99) (by decide) z).mp c
  refine eX7_add hR.1 (fun q => ?_) (fun q => ?_) <;> rw [hG.1] at q
  · have q : gN g < 30 := za_lt (b := 30) (by omega) (by omega) q
    have kk := k1 va vb vc q
    obtain ⟨xn, hx, rfl, ex⟩ := V_of (by decide) va
    obtain ⟨yn, hy, rfl, ey⟩ := V_of (by omega) vb
    obtain ⟨zn, hz, rfl, ez⟩ := V_of (by decide) vc
    refine bX7_add_11 hR.1 (gN g) hG.1 q hu ?_
    rw [hG.1, hG.2.1, nI_1, nI_pred]
    have eu : nI (N u) = u := by rcases hu with rfl | rfl <;> decide
    have s := hR.seeK (w' := pw_sI (pw_sI (pw_sI (pw_sI (pw_sI (pw_sI (pw_sI w 49 (gN g) (nI xn)) 50 (gN g) (nI yn)) 51 (gN g) (nI zn)) 52 (gN g) u) 53 (gN g) (nI (gT g))) 54 (gN g) (-1)) 48 10 (nI (gN g + 1))) (q := seeQ (gG g) (gN g) (N (nI xn)) (N (nI yn)) (N (nI zn)) (N u) (gT g)) (n := gN g + 1) (tm := gT g) hg
      (((((((ag.sI (by decide)).tr (ag.sI (by decide))).tr (ag.sI (by decide))).tr (ag.sI (by decide))).tr (ag.sI (by decide))).tr (ag.sI (by decide))).tr (ag.sI (by decide)))
      (by rw [pw_oth (fun _ z => by omega)]; iterate 6 rw [pw_oth (fun z _ => by omega)])
      ⟨pw_same, by rw [pw_oth (fun _ z => by omega)]; (iterate 6 rw [pw_oth (fun z _ => by omega)]); exact hG.2.1, fun c hc j hj => ?_, fun j hj => ?_⟩
    · exact bX9_seen_40 s.1.1 h1 (kk _ s.1 s.2)
    · by_cases ej : j = gN g
      · subst ej
        rw [seeQ_n, ex, ey, ez]
        match c, hc with
        | 0, _ => (iterate 6 rw [pw_oth (fun z _ => by omega)]); exact pw_same
        | 1, _ => (iterate 5 rw [pw_oth (fun z _ => by omega)]); exact pw_same
        | 2, _ => (iterate 4 rw [pw_oth (fun z _ => by omega)]); exact pw_same
        | 3, _ => (iterate 3 rw [pw_oth (fun z _ => by omega)]); rw [pw_same]; exact eu.symm
        | 4, _ => (iterate 2 rw [pw_oth (fun z _ => by omega)]); exact pw_same
      · rw [pw_oth (fun z _ => by omega)]
        (iterate 6 rw [pw_oth (fun _ z => ej z)])
        rw [seeQ_o ej]
        exact hG.2.2.1 c hc j (by omega)
    · by_cases ej : j = gN g
      · subst ej
        rw [pw_oth (fun z _ => by omega), pw_same, seeQ_n]
        rfl
      · rw [pw_oth (fun z _ => by omega)]
        (iterate 6 rw [pw_oth (fun _ z => ej z)])
        rw [seeQ_o ej]
        exact hG.2.2.2 j (by omega)
  · exact bX9_seen_40 hR.1 h1 (k0 (fun u => q ((nI_ltI (b := 30) (by omega) (by omega)).mpr u.2.2.2)))
theorem tX9_untell {x : Int32} (hg : WG g) (hR : RX t g w) (k0 : ¬ (V (gN g) x ∧ gG g 5 (N x) = 0) → Q (some (.int 0)) w) (k1 : V (gN g) x → gG g 5 (N x) = 0 → ∀ w', RX t (gUnt g x) w' → agX w w' → Q (some (.int 1)) w') : px_Call E (d + 20) 0 0 mX9_untell [.ref 1, .int x] w Q := by
  have hG := hR.2.2.2.2.2.2.1
  have n30 := hg.2.2.2.1.1
  have hw := hR.1
  have no : ¬ (V (gN g) x ∧ gG g 5 (N x) = 0) → px_W E mX7_withdraw (d + 19) 0 0 22 [.null, .null] [] w (fun v w' => px_W E mX9_untell (d + 20) 0 0 8 [.null, .null] (v.toList ++ []) w' Q) := fun q => bX7_withdraw_22 hw (bX9_untell_8 hw (Or.inl rfl) (k0 q))
  refine eX9_untell hw (eX7_withdraw hw (fun a => no (fun q => q.1.1 a)) (fun a b => no (fun q => q.1.2 (by rw [hG.1] at b; exact b))) (fun a b => ?_))
  rw [hG.1] at b
  have va : V (gN g) x := ⟨a, b⟩
  have kk := k1 va
  obtain ⟨j, hj, rfl, ej⟩ := V_of (by omega) va
  obtain ⟨-, -, -, -, -, g5⟩ := hg.2.2.2.1.2.2 j hj
  refine bX7_withdraw_12 hw j rfl (by omega) (fun c => ?_) (fun c => no (fun q => c ?_))
  · rw [hG.2.2.2 j hj, aU_ne g5] at c
    have kk := kk (by rw [ej]; exact c)
    refine bX7_withdraw_24 hw j rfl (by omega) ?_
    rw [hG.2.1]
    have s := hR.seeK (w' := pw_sI w 54 j (nI (gT g))) (q := untQ (gG g) (N (nI j)) (gT g + 1)) (n := gN g) (tm := gT g) hg (ag.sI (by decide)) (pw_oth (fun z _ => by omega)) ⟨by rw [pw_oth (fun z _ => by omega)]; exact hG.1, by rw [pw_oth (fun z _ => by omega)]; exact hG.2.1, fun c hc i hi => ?_, fun i hi => ?_⟩
    · exact bX9_untell_8 s.1.1 (Or.inr rfl) (kk _ s.1 s.2)
    · rw [pw_oth (fun z _ => by omega), untQ_o (by omega)]
      exact hG.2.2.1 c hc i hi
    · rw [ej]
      by_cases ei : i = j
      · subst ei
        rw [pw_same, untQ_n]
        rfl
      · rw [pw_oth (fun _ z => ei z), untQ_o (fun z => ei z.2)]
        exact hG.2.2.2 i hi
  · rw [hG.2.2.2 j hj, aU_ne g5]
    rw [ej] at q
    exact q.2
theorem tX9_later {x : Int32} (hg : WG g) (hR : RX t g w) (k0 : ¬ (V 1001 x ∧ gT g + N x ≤ 100000) → Q (some (.int (-1))) w) (k1 : V 1001 x → gT g + N x ≤ 100000 → ∀ w', RX t (gSee g (gG g) (gN g) (gT g + N x)) w' → agX w w' → Q (some (.int (nI (gT g + N x)))) w') : px_Call E (d + 20) 0 0 mX9_later [.ref 1, .int x] w Q := by
  have hG := hR.2.2.2.2.2.2.1
  have tl := hg.2.2.2.1.2.1
  have hw := hR.1
  have vl := V_le (n := 1000) (x := x) (by decide)
  have no : ¬ (V 1001 x ∧ gT g + N x ≤ 100000) → px_W E mX7_passTime (d + 19) 0 0 22 [.null, .null] [] w (fun v w' => px_W E mX9_later (d + 20) 0 0 8 [.null, .null] (v.toList ++ []) w' Q) := fun q => bX7_passTime_22 hw (bX9_later_8 hw (k0 q))
  refine eX9_later hw (eX7_passTime hw (fun a => no (fun q => q.1.1 a)) (fun a b => no (fun q => (vl.mpr q.1).2 b)) (fun a b c => ?_) (fun a b c => no (fun q => ?_)))
  · have va := vl.mp ⟨a, b⟩
    have kk := k1 va
    obtain ⟨j, hj, rfl, ej⟩ := V_of (by decide) va
    rw [hG.2.1, nI_add] at c ⊢
    have c : gT g + j ≤ 100000 := za_le (b := 100000) (by omega) (by omega) c
    rw [ej] at kk
    have s := hR.seeK (w' := pw_sI w 48 11 (nI (gT g + j))) (q := gG g) (n := gN g) (tm := gT g + j) hg (ag.sI (by decide)) (pw_oth (fun _ z => by omega)) ⟨by rw [pw_oth (fun _ z => by omega)]; exact hG.1, pw_same, fun c hc i hi => by rw [pw_oth (fun z _ => by omega)]; exact hG.2.2.1 c hc i hi, fun i hi => by rw [pw_oth (fun z _ => by omega)]; exact hG.2.2.2 i hi⟩
    exact bX9_later_8 s.1.1 (kk c _ s.1 s.2)
  · obtain ⟨j, hj, rfl, ej⟩ := V_of (by decide) q.1
    rw [ej] at q
    rw [hG.2.1, nI_add] at c
    exact c ((nI_leI (b := 100000) (by omega) (by omega)).mpr q.2)
theorem isBx (x : Int32) : pX9_isBox x ↔ V 3 x := Iff.rfl
theorem tX9_image {x : Int32} (hg : WG g) (hR : RX t g w) (k0 : ¬ V 3 x → Q (some (.int (-1))) w) (k1 : V 3 x → ∀ w', RX t (gImg g x) w' → agX w w' → Q (some (.int (nI (sD (gS g))))) w') : px_Call E (d + 20) 0 0 mX9_image [.ref 1, .int x] w Q := by
  obtain ⟨hw, ht, hH, hS, hL, hB, hG, hC, hY, hT, hF, hK⟩ := id hR
  have np := hg.1.1
  have h0 := ht.1
  refine eX9_image hw (fun a => ?_) (fun a => k0 a)
  have va : V 3 x := a
  have kk := k1 va
  obtain ⟨j, hj, rfl, ej⟩ := V_of (by decide) va
  refine tX8_writeTo hw np hS sh40 (by decide) (by omega) (by decide) (fun w1 a1 o1 R1 => ?_)
  refine bX9_image_21 (a1.1.trans hw) ?_
  have nh : ∀ k, k ≤ 11 → t.1 + k ∉ [1, 40] := by
    intro k hk
    rcases h0 with e | e <;> rw [e] <;> simp <;> omega
  rw [a1.I (by decide), hS.2.2.2.1, a1.I (by decide), hF.1, za_bit1 (by omega), za_or]
  have A : ag [1, 40] w (pw_sI w1 1 9 (nI (gU g ||| 2 ^ j))) := (a1.mono (by simp)).tr (ag.sI (by decide))
  have A2 : ag [1] w1 (pw_sI w1 1 9 (nI (gU g ||| 2 ^ j))) := ag.sI (by decide)
  refine kk _ ⟨A.1.trans hw, ht, hH.ag A nh, hS.ag A (by decide) (by decide) (by decide), hL.ag np A (by decide), fun i hi hb => ?_, hG.ag A (by decide), hC.ag A (by decide), hY.ag A (by decide), hT.ag A (by decide), ⟨?_, ?_, ?_, ?_, ?_⟩, hK.ag A (by decide)⟩ (A.x (by decide))
  · have hb : (gU g ||| 2 ^ N (nI j)).testBit i = true := hb
    show RXr (gH g) (za_u (gX g) (N (nI j)) (gS g) i) _ 40 (15 * i)
    rw [ej] at hb ⊢
    refine RXr.ag np ?_ A2 (by decide)
    by_cases e : i = j
    · subst e; rw [za_us]; exact R1
    · rw [za_un e]
      have : (gU g).testBit i = true := by
        rw [Nat.testBit_or, Nat.testBit_two_pow] at hb
        simpa [show ¬ j = i from fun z => e z.symm] using hb
      exact (hB i hi this).eqv np (fun k hk => o1 _ (by omega))
  · show pw_I _ 1 9 = nI (gU g ||| 2 ^ N (nI j)); rw [ej, pw_same]
  · rw [pw_oth (fun _ z => by omega), a1.I (by decide)]; exact hF.2.1
  · rw [pw_oth (fun _ z => by omega), a1.I (by decide)]; exact hF.2.2.1
  · rw [pw_oth (fun _ z => by omega), a1.I (by decide)]; exact hF.2.2.2.1
  · rw [pw_oth (fun _ z => by omega), a1.I (by decide)]; exact hF.2.2.2.2
theorem tX9_back {x : Int32} (hg : WG g) (hR : RX t g w) (k0 : ¬ (V 3 x ∧ (gU g).testBit (N x) = true) → Q (some (.int (-1))) w) (k1 : V 3 x → (gU g).testBit (N x) = true → ∀ w', RX t (gBak g x) w' → agX w w' → Q (some (.int (nI (sD (gX g (N x)))))) w') : px_Call E (d + 20) 0 0 mX9_back [.ref 1, .int x] w Q := by
  have hF := hR.2.2.2.2.2.2.2.2.2.2.1
  have hB := hR.2.2.2.2.2.1
  have np := hg.1.1
  have hw := hR.1
  have u8 := hg.2.2.1.1
  have no : ¬ (V 3 x ∧ (gU g).testBit (N x) = true) → px_W E mX9_back (d + 20) 0 0 18 [.null, .null] [] w Q := fun q => bX9_back_18 hw (k0 q)
  refine eX9_back hw (fun a => no (fun q => a q.1)) (fun a b => ?_) (fun a b => no (fun q => ?_))
  · have va : V 3 x := a
    have kk := k1 va
    obtain ⟨j, hj, rfl, ej⟩ := V_of (by decide) va
    rw [hF.1, za_tb0 (by omega) (by omega)] at b
    have b : (gU g).testBit j = true := by cases hb : (gU g).testBit j with
      | false => exact absurd hb b
      | true => rfl
    unfold gBak at kk
    rw [ej] at kk
    refine tX8_readFrom hw np (hB j hj b) sh40 (by decide) (by omega) (by decide) (fun w1 a1 S1 => ?_)
    refine bX9_back_32 (a1.1.trans hw) (tX3_restart (a1.1.trans hw) np S1 (fun w2 a2 L2 => ?_))
    have S2 := S1.ag a2 (by decide) (by decide) (by decide)
    have q := hR.actK (w' := w2) hg ((a1.mono (by intro a; simp; omega)).tr (a2.mono (by simp))) S2 L2
    refine bX9_back_43 q.1.1 ?_
    rw [S2.2.2.2.1]
    exact kk b w2 q.1 q.2
  · obtain ⟨j, hj, rfl, ej⟩ := V_of (by decide) q.1
    rw [hF.1, za_tb0 (by omega) (by omega)] at b
    rw [ej, b] at q
    cases q.2
end XP
