/-! the class: what is seen -/
def XSg (g : aG) (n tm : Nat) (w : pw_W) : Prop := pw_I w 48 10 = nI n ∧ pw_I w 48 11 = nI tm ∧ (∀ c, c < 5 → ∀ j, j < n → pw_I w (49 + c) j = nI (g c j)) ∧ ∀ j, j < n → pw_I w 54 j = aU (g 5 j)
def XCf (h : aH) (w : pw_W) (v : Nat) : Prop := ∀ v', v' < v → ∀ d, d ≤ 14 → ∀ p, p < aNp h → pw_I w 55 ((v' * 15 + d) * 6 + p) = nI (aWas h v' d p)
def XCh (h : aH) (w : pw_W) : Prop := pw_I w 48 7 = 0 ∨ (pw_I w 48 7 = 1 ∧ XCf h w 31)
theorem XSg.ag {g : aG} {n tm : Nat} {w w' : pw_W} {S : List Nat} (hG : XSg g n tm w) (ha : ag S w w') (hs : ∀ a ∈ [48, 49, 50, 51, 52, 53, 54], a ∉ S) : XSg g n tm w' := by
  refine ⟨(ha.I (hs 48 (by decide)) _).trans hG.1, (ha.I (hs 48 (by decide)) _).trans hG.2.1, fun c hc j hj => ?_, fun j hj => (ha.I (hs 54 (by decide)) _).trans (hG.2.2.2 j hj)⟩
  refine (ha.I ?_ _).trans (hG.2.2.1 c hc j hj)
  match c, hc with
  | 0, _ => exact hs 49 (by decide)
  | 1, _ => exact hs 50 (by decide)
  | 2, _ => exact hs 51 (by decide)
  | 3, _ => exact hs 52 (by decide)
  | 4, _ => exact hs 53 (by decide)
theorem XCf.ag {h : aH} {w w' : pw_W} {v : Nat} {S : List Nat} (hC : XCf h w v) (ha : ag S w w') (n : 55 ∉ S) : XCf h w' v := fun v' h1 d h2 p h3 => (ha.I n _).trans (hC v' h1 d h2 p h3)
theorem XCh.ag {h : aH} {w w' : pw_W} {S : List Nat} (hC : XCh h w) (ha : ag S w w') (n : 48 ∉ S ∧ 55 ∉ S) : XCh h w' := by
  rcases hC with z | ⟨z1, z2⟩
  · exact Or.inl ((ha.I n.1 _).trans z)
  · exact Or.inr ⟨(ha.I n.1 _).trans z1, z2.ag ha n.2⟩
theorem i2b99 : ∀ x, x < 128 → js_i2b (js_i2b (nI x)) = nI x := by decide +kernel
theorem cellN (v d p : Nat) : hX7_cell (nI v) (nI d) (nI p) = nI ((v * 15 + d) * 6 + p) := by
  show (nI v * nI 15 + nI d) * nI 6 + nI p = _
  rw [pk_mul, nI_add, pk_mul, nI_add]
section XO
variable {E : px_E} {d : Nat} {w : pw_W} {Q : Option Value → pw_W → Prop} {t : ct_T} {h : aH} {s : aS} {r0 : Nat}
theorem xd_F {k : Nat} (h0 : is_Hamlet r0) (hk : k ≤ 11) : r0 + k ∉ [48, 55, 57, 58, 59, r0 + 12] := by
  rcases h0 with rfl | rfl <;> simp <;> omega
theorem xd_F5 (h0 : is_Hamlet r0) : 55 ∉ [57, 57 + 1, 57 + 2, r0 + 12] ∧ 48 ∉ [57, 57 + 1, 57 + 2, r0 + 12] := by
  rcases h0 with rfl | rfl <;> simp
theorem tX7_fillChart (hw : w.1 = cs t) (hr0 : is_Hamlet r0) (hH : RXH h w r0) (hh : aWH h) (h0 : 0 < aNp h) (hC : XCh h w) (k : ∀ w', ag [48, 55, 57, 58, 59, r0 + 12] w w' → (∀ j, j ≠ 7 → pw_I w' 48 j = pw_I w 48 j) → pw_I w' 48 7 = 1 → XCf h w' 31 → Q none w') :
    px_Call E (d + 6) 0 0 mX7_fillChart [.ref 48, .ref r0] w Q := by
  have np := hh.1
  refine eX7_fillChart hw hr0 (fun q => ?_) (fun q => ?_)
  · have n57 : r0 + 9 ∉ [57, 57 + 1, 57 + 2, r0 + 12] := by rcases hr0 with rfl | rfl <;> simp
    obtain ⟨m5, m4⟩ := xd_F5 hr0
    have n5 : (55 : Nat) ∉ [57, 57 + 1, 57 + 2] := by decide
    have m48 : (48 : Nat) ∉ [55, 57, 58, 59, r0 + 12] := by rcases hr0 with rfl | rfl <;> simp
    have key : ∀ v, v ≤ 31 → ∀ w1, ag [55, 57, 58, 59, r0 + 12] w w1 → XCf h w1 v → px_W E mX7_fillChart (d + 6) 0 0 10 [.ref 48, .ref r0, .int (nI v), .null, .null] [] w1 Q := by
      refine za_up 31 _ (fun v hv ih => ?_)
      intro w1 a1 C1
      have hw1 := a1.1.trans hw
      have A1 : ag [48, 55, 57, 58, 59, r0 + 12] w w1 := a1.mono (by intro a; simp; omega)
      have H1 := hH.ag A1 (fun k hk => xd_F hr0 hk)
      refine bX7_fillChart_10 hw1 hr0 (fun z => ?_) (fun z => ?_)
      · have : v = 31 := by have := za_lt (a := 30) (by omega) (by omega) z; omega
        subst this
        refine k _ (A1.tr (ag.sI (by simp))) (fun j hj => ?_) pw_same (C1.ag (S := [48]) (ag.sI (by decide)) (by decide))
        rw [pw_oth (fun _ z => hj z)]
        exact a1.I m48 _
      · have vl : v ≤ 30 := za_nlt (a := 30) (by omega) (by omega) z
        refine tX8_setAsTold hw1 st57 hr0 H1 hh (fun w2 a2 S2 => ?_)
        have hw2 := a2.1.trans hw1
        have H2 := H1.ag (a2.mono (T := [48, 55, 57, 58, 59, r0 + 12]) (by simp)) (fun k hk => xd_F hr0 hk)
        refine bX7_fillChart_24 hw2 hr0 (aNp h - 1) (by rw [H2.1.1]; exact pk_sub (b := 1) (by omega)) (by omega) ?_
        have S3 : RXS h (aWas0 h v) (pw_sI w2 59 (aNp h - 1) (nI v)) 57 := S2.setF (p := aNp h - 1) rfl
        have A3 : ag [55, 57, 58, 59, r0 + 12] w1 (pw_sI w2 59 (aNp h - 1) (nI v)) := (a2.mono (by simp)).tr (ag.sI (by simp))
        have C3 : XCf h (pw_sI w2 59 (aNp h - 1) (nI v)) v := (C1.ag a2 n5).ag (S := [59]) (ag.sI (by decide)) (by decide)
        generalize pw_sI w2 59 (aNp h - 1) (nI v) = w3 at S3 A3 C3 ⊢
        have W0 := aWas0_W hh vl
        have key2 : ∀ e, e ≤ 15 → ∀ w4, ag [55, 57, 58, 59, r0 + 12] w1 w4 → XCf h w4 v → (∀ e', e' < e → ∀ p, p < aNp h → pw_I w4 55 ((v * 15 + e') * 6 + p) = nI (aWas h v e' p)) → RXS h (aDays h (aRo h) false e (aWas0 h v)) w4 57 → px_W E mX7_fillChart (d + 6) 0 0 41 [.ref 48, .ref r0, .int (nI v), .int (nI e), .null] [] w4 Q := by
          refine za_up 15 _ (fun e he ih2 => ?_)
          intro w4 A4 C4 D4 S4
          have hw4 := A4.1.trans hw1
          refine bX7_fillChart_41 hw4 hr0 (fun z => ?_) (fun z => ?_)
          · have : e = 15 := by have := za_lt (a := 14) (by omega) (by omega) z; omega
            subst this
            rw [nI_1]
            refine ih (by omega) w4 (a1.tr A4) (fun v' h1 e' h2 p h3 => ?_)
            by_cases ev : v' = v
            · subst ev; exact D4 e' (by omega) p h3
            · exact C4 v' (by omega) e' h2 p h3
          · have el : e ≤ 14 := za_nlt (a := 14) (by omega) (by omega) z
            obtain ⟨W4, D5⟩ := aWS.days (ro := aRo h) (fl := false) hh W0 e (by show 0 + e < 5000; omega)
            have key3 : ∀ p, p ≤ aNp h → ∀ w5, ag [55] w4 w5 → XCf h w5 v → (∀ e', e' < e → ∀ p, p < aNp h → pw_I w5 55 ((v * 15 + e') * 6 + p) = nI (aWas h v e' p)) → (∀ q, q < p → pw_I w5 55 ((v * 15 + e) * 6 + q) = nI (aWas h v e q)) → px_W E mX7_fillChart (d + 6) 0 0 50 [.ref 48, .ref r0, .int (nI v), .int (nI e), .int (nI p)] [] w5 Q := by
              refine za_up _ _ (fun p hp ih3 => ?_)
              intro w5 A5 C5 D5 F5
              have hw5 := A5.1.trans hw4
              have B5 : ag [48, 55, 57, 58, 59, r0 + 12] w1 w5 := (A4.mono (by intro a; simp; omega)).tr (A5.mono (by simp))
              have H5 := H1.ag B5 (fun k hk => xd_F hr0 hk)
              have S5 := S4.ag A5 (by decide) (by decide) (by decide)
              refine bX7_fillChart_50 hw5 hr0 (fun y => ?_) (fun y => ?_) <;> rw [H5.1.1] at y
              · have : p = aNp h := by have := za_le (by omega) (by omega) y; omega
                subst this
                refine tX2_passDay (fl := false) hw5 hr0 st57 hr0.sh9 n57 H5 S5 H5.ro hh W4 hh.ro (fun w6 A6 S6 => ?_)
                refine bX7_fillChart_101 (A6.1.trans hw5) hr0 ?_
                rw [nI_1]
                refine ih2 (by omega) w6 (A4.tr ((A5.mono (by simp)).tr (A6.mono (by simp)))) (C5.ag A6 m5) (fun e' h1 q h2 => ?_) S6
                rw [A6.I m5]
                by_cases ee : e' = e
                · subst ee; exact F5 q h2
                · exact D5 e' (by omega) q h2
              · have pl : p < aNp h := za_nle (by omega) (by omega) y
                refine bX7_fillChart_59 hw5 hr0 p rfl (by omega) ((v * 15 + e) * 6 + p) (cellN v e p) (by omega) ?_
                have g := (W4.1 p pl).2
                have e1 : js_i2b (js_i2b (pw_I w5 58 p)) = nI (aWas h v e p) := by
                  have : pw_I w5 58 p = nI (aWas h v e p) := S5.1 p pl
                  rw [this]
                  exact i2b99 _ (by unfold aWas; omega)
                rw [e1, nI_1]
                refine ih3 pl _ (A5.tr (ag.sI (by decide))) (fun v' h1 e' h2 q h3 => ?_) (fun e' h1 q h2 => ?_) (fun q h1 => ?_)
                · rw [pw_oth (fun _ z => by omega)]; exact C5 v' h1 e' h2 q h3
                · rw [pw_oth (fun _ z => by omega)]; exact D5 e' h1 q h2
                · by_cases eq : q = p
                  · subst eq; exact pw_same
                  · rw [pw_oth (fun _ z => by omega)]; exact F5 q (by omega)
            exact key3 0 (Nat.zero_le _) w4 ag.rf C4 D4 (fun q hq => absurd hq (Nat.not_lt_zero _))
        exact key2 0 (by omega) w3 A3 C3 (fun e' h1 => absurd h1 (Nat.not_lt_zero _)) S3
    exact key 0 (by omega) w ag.rf (fun v' h1 => absurd h1 (Nat.not_lt_zero _))
  · rcases hC with z | ⟨z1, z2⟩
    · exact absurd z q
    · exact k w ag.rf (fun _ _ => rfl) z1 z2
theorem aU_ne {u : Nat} (hu : u ≤ 100001) : aU u = -1 ↔ u = 0 := by
  unfold aU
  split
  · rename_i z; exact ⟨fun _ => z, fun _ => rfl⟩
  · rename_i z; exact ⟨fun y => absurd y (nI_m1 (by omega)), fun y => absurd y z⟩
theorem tX7_countsAt {g : aG} {n tm j : Nat} {x : Int32} (hw : w.1 = cs t) (hG : XSg g n tm w) (hg : aWG h g n tm) (hj : j < n) (k : Q (some (.int (jb (aCnt g j x)))) w) :
    px_Call E (d + 1) 0 0 mX7_countsAt [.ref 48, .int (nI j), .int x] w Q := by
  obtain ⟨g0, g1, g2, g3, g4, g5⟩ := hg.2.2 j hj
  have n30 := hg.1
  have e4 : pw_I w 53 j = nI (g 4 j) := hG.2.2.1 4 (by decide) j hj
  have e5 := hG.2.2.2 j hj
  have go : ∀ y : Int32, (y = 0 ∨ y = 1) → (y = 0 ↔ (g 5 j = 0 ∨ x < nI (g 5 j - 1))) → px_W E mX7_countsAt (d + 1) 0 0 25 [.ref 48, .int (nI j), .int x, .null] [.int y] w Q := by
    intro y y1 y2
    refine bX7_countsAt_25 hw j rfl (by omega) (fun z => ?_) (fun z z2 => ?_) (fun z z2 => ?_) <;> rw [e4] at z
    · rw [jb_f (fun q => q.1 z)] at k
      exact bX7_countsAt_44 hw (bX7_countsAt_45 hw (Or.inl rfl) k)
    · rw [jb_f (fun q => z2 (y2.mpr q.2))] at k
      exact bX7_countsAt_44 hw (bX7_countsAt_45 hw (Or.inl rfl) k)
    · rw [jb_t ⟨z, y2.mp z2⟩] at k
      exact bX7_countsAt_45 hw (Or.inr rfl) k
  refine eX7_countsAt hw j rfl (by omega) (fun z => ?_) (fun z => ?_) <;> rw [e5, aU_ne g5] at z
  · exact bX7_countsAt_24 hw (go 0 (Or.inl rfl) ⟨fun _ => Or.inl z, fun _ => rfl⟩)
  · refine bX7_countsAt_10 hw j rfl (by omega) (fun y => ?_) (fun y => ?_) <;> rw [e5] at y <;> unfold aU at y <;> rw [if_neg z] at y
    · exact bX7_countsAt_24 hw (go 0 (Or.inl rfl) ⟨fun _ => Or.inr y, fun _ => rfl⟩)
    · exact go 1 (Or.inr rfl) ⟨fun q => absurd q (by decide), fun q => q.elim (fun q => absurd q z) (fun q => absurd q y)⟩
theorem tX7_agrees {g : aG} {n tm v : Nat} {x : Int32} (hw : w.1 = cs t) (hh : aWH h) (hG : XSg g n tm w) (hg : aWG h g n tm) (hC : XCf h w 31) (hv : v ≤ 30) (k : Q (some (.int (jb (aAgK h g v x n = true)))) w) :
    px_Call E (d + 2) 0 0 mX7_agrees [.ref 48, .int (nI v), .int x] w Q := by
  have np := hh.1
  have n30 := hg.1
  refine eX7_agrees hw ?_
  have key : ∀ j, j ≤ n → aAgK h g v x j = true → px_W E mX7_agrees (d + 2) 0 0 2 [.ref 48, .int (nI v), .int x, .int (nI j)] [] w Q := by
    refine za_up n _ (fun j hj ih => ?_)
    intro aj
    refine bX7_agrees_2 hw (fun z => ?_) (fun z => ?_) <;> rw [hG.1] at z
    · have : j = n := by have := za_le (by omega) (by omega) z; omega
      subst this
      rw [jb_t aj] at k
      exact k
    · have hlt : j < n := za_nle (by omega) (by omega) z
      obtain ⟨g0, g1, g2, g3, g4, g5⟩ := hg.2.2 j hlt
      have e0 : pw_I w 49 j = nI (g 0 j) := hG.2.2.1 0 (by decide) j hlt
      have e1 : pw_I w 50 j = nI (g 1 j) := hG.2.2.1 1 (by decide) j hlt
      have e2 : pw_I w 51 j = nI (g 2 j) := hG.2.2.1 2 (by decide) j hlt
      have e3 : pw_I w 52 j = nI (g 3 j) := hG.2.2.1 3 (by decide) j hlt
      have yes : (aCnt g j x → aAg1 h g v j) → px_W E mX7_agrees (d + 2) 0 0 65 [.ref 48, .int (nI v), .int x, .int (nI j)] [] w Q := by
        intro y
        refine bX7_agrees_65 hw ?_
        rw [nI_1]
        exact ih hlt (aAgK_yes aj y)
      refine tX7_countsAt (h := h) hw hG hg hlt ?_
      refine bX7_agrees_16 hw (fun z2 => yes (fun c => absurd c (jb_eq0.mp z2))) (fun z2 => ?_)
      have c : aCnt g j x := Classical.not_not.mp (fun y => z2 (jb_eq0.mpr y))
      have wl := aWas_le hh hv g0 g1
      have ew : pw_I w 55 ((v * 15 + g 0 j) * 6 + g 1 j) = nI (aWas h v (g 0 j) (g 1 j)) := hC v (by omega) _ g0 _ g1
      have go : ∀ y : Nat, (if aWas h v (g 0 j) (g 1 j) < g 2 j then 0 else 1) = y → y ≤ 1 → px_W E mX7_agrees (d + 2) 0 0 54 [.ref 48, .int (nI v), .int x, .int (nI j)] [.int (nI y)] w Q := by
        intro y hy y1
        refine bX7_agrees_54 hw j rfl (by omega) (fun z3 => ?_) (fun z3 => ?_) <;> rw [e3] at z3
        · exact yes (fun _ => hy.trans (za_eq (by omega) (by omega) z3))
        · have no : ¬ aAg1 h g v j := fun q => z3 (by rw [← hy]; exact congrArg nI q)
          have : aAgK h g v x n = false := aAgK_no (j := j + 1) (by omega) (aAgK_nay c no)
          rw [this] at k
          exact k
      refine bX7_agrees_19 hw j rfl (by omega) ((v * 15 + g 0 j) * 6 + g 1 j) (by rw [e0, e1]; exact cellN _ _ _) (by omega) (fun z3 => ?_) (fun z3 => ?_) <;> rw [ew, e2] at z3
      · exact go 0 (if_pos (za_lt (by omega) (by omega) z3)) (by omega)
      · exact go 1 (if_neg (by have := za_nlt (by omega) (by omega) z3; omega)) (by omega)
  exact key 0 (Nat.zero_le _) rfl
theorem tX7_fitting {g : aG} {n tm : Nat} {x : Int32} (hw : w.1 = cs t) (hr0 : is_Hamlet r0) (hH : RXH h w r0) (hh : aWH h) (hG : XSg g n tm w) (hg : aWG h g n tm) (hC : XCh h w) (k : ∀ w', ag [48, 55, 57, 58, 59, r0 + 12] w w' → XSg g n tm w' → XCh h w' → (0 < aNp h → XCf h w' 31) → Q (some (.int (nI (aFt h g n x)))) w') :
    px_Call E (d + 7) 0 0 mX7_fitting [.ref 48, .ref r0, .int x] w Q := by
  have np := hh.1
  refine eX7_fitting hw hr0 (fun z => ?_) (fun z => ?_) <;> rw [hH.1.1] at z
  · have z : aNp h ≠ 0 := za_ne (b := 0) (by omega) (by omega) z
    refine tX7_fillChart hw hr0 hH hh (by omega) hC (fun w1 a1 f1 c1 C1 => ?_)
    have hw1 := a1.1.trans hw
    have n48 : ∀ a ∈ [49, 50, 51, 52, 53, 54], a ∉ [48, 55, 57, 58, 59, r0 + 12] := by
      rcases hr0 with rfl | rfl <;> decide
    have G1 : XSg g n tm w1 := by
      refine ⟨(f1 10 (by decide)).trans hG.1, (f1 11 (by decide)).trans hG.2.1, fun c hc j hj => ?_, fun j hj => (a1.I (n48 54 (by decide)) _).trans (hG.2.2.2 j hj)⟩
      refine (a1.I ?_ _).trans (hG.2.2.1 c hc j hj)
      match c, hc with
      | 0, _ => exact n48 49 (by decide)
      | 1, _ => exact n48 50 (by decide)
      | 2, _ => exact n48 51 (by decide)
      | 3, _ => exact n48 52 (by decide)
      | 4, _ => exact n48 53 (by decide)
    refine bX7_fitting_14 (r1 := r0) hw1 hr0 ?_
    have key : ∀ v, v ≤ 31 → px_W E mX7_fitting (d + 7) 0 0 19 [.ref 48, .null, .int x, .int (nI (aFtK h g n x v)), .int (nI v)] [] w1 Q := by
      refine za_up 31 _ (fun v hv ih => ?_)
      refine bX7_fitting_19 (r1 := r0) hw1 hr0 (fun y => ?_) (fun y => ?_)
      · have : v = 31 := by have := za_lt (a := 30) (by omega) (by omega) y; omega
        subst this
        have := k w1 a1 G1 (Or.inr ⟨c1, C1⟩) (fun _ => C1)
        unfold aFt at this
        rw [if_neg z] at this
        exact this
      · have vl : v ≤ 30 := za_nlt (a := 30) (by omega) (by omega) y
        have ih := ih (by omega)
        rw [aFtK_s, ← nI_1] at ih
        refine tX7_agrees hw1 hh G1 hg C1 vl ?_
        refine bX7_fitting_33 (r1 := r0) hw1 hr0 (fun u => ?_) (fun u => ?_) <;> refine bX7_fitting_43 (r1 := r0) hw1 hr0 ?_
        · rw [if_neg (jb_eq0.mp u)] at ih
          exact ih
        · rw [if_pos (Classical.not_not.mp (fun q => u (jb_eq0.mpr q)))] at ih
          rw [za_bit1 (by omega), za_or]
          exact ih
    exact key 0 (by omega)
  · have z : aNp h = 0 := za_eq (b := 0) (by omega) (by omega) z
    have := k w ag.rf hG hC (fun q => by omega)
    unfold aFt at this
    rw [if_pos z] at this
    exact this
theorem sh56 : (cs t).2.1 56 = (100, 100) := rfl
theorem tX7_mostLeft {g : aG} {n e p : Nat} {x : Int32} (hw : w.1 = cs t) (hh : aWH h) (hC : XCf h w 31) (he : e ≤ 14) (hp : p < aNp h) (k : ∀ w', ag [56] w w' → Q (some (.int (nI (aLf h g n x e p)))) w') :
    px_Call E (d + 2) 0 0 mX7_mostLeft [.ref 48, .int (nI (aFt h g n x)), .int (nI e), .int (nI p)] w Q := by
  have np := hh.1
  refine eX7_mostLeft hw (tJ7_fill hw sh56 (by decide) (fun w1 a1 f1 => ?_))
  have hw1 := a1.1.trans hw
  refine bX7_mostLeft_8 hw1 ?_
  have fl := aFt_lt (h := h) (g := g) (n := n) (k := x)
  have ft : aFt h g n x = aFtK h g n x 31 := by unfold aFt; rw [if_neg (by omega)]
  have key : ∀ v, v ≤ 31 → ∀ w2, ag [56] w w2 → (∀ c, c < 100 → pw_I w2 56 c = nI ((aLfK (fun v => aAgK h g v x n) (fun v => aWas h v e p) v).1 c)) → px_W E mX7_mostLeft (d + 2) 0 0 14 [.ref 48, .int (nI (aFt h g n x)), .int (nI e), .int (nI p), .int (nI (aLfK (fun v => aAgK h g v x n) (fun v => aWas h v e p) v).2), .int (nI v), .null] [] w2 Q := by
    refine za_up 31 _ (fun v hv ih => ?_)
    intro w2 a2 T2
    have hw2 := a2.1.trans hw
    have eb := za_tb1 (n := aFt h g n x) (k := v) fl (by omega)
    obtain ⟨b1, b2⟩ := aLfK_le (fun v => aAgK h g v x n) (fun v => aWas h v e p) v
    refine bX7_mostLeft_14 hw2 (fun y => ?_) (fun y z => ?_) (fun y z => ?_)
    · have : v = 31 := by have := za_lt (a := 30) (by omega) (by omega) y; omega
      subst this
      exact k w2 a2
    · have vl : v ≤ 30 := za_nlt (a := 30) (by omega) (by omega) y
      rw [eb, ft, aFtK_bit] at z
      have z : ¬ aAgK h g v x n = true := by
        intro q; exact z (by simp [q]; omega)
      refine bX7_mostLeft_70 hw2 ?_
      have ih := ih (by omega) w2 a2
      rw [aLfK_s, if_neg z] at ih
      rw [nI_1]
      exact ih T2
    · have vl : v ≤ 30 := za_nlt (a := 30) (by omega) (by omega) y
      rw [eb, ft, aFtK_bit] at z
      have z : aAgK h g v x n = true := by
        simp at z; exact z.2
      have wl := aWas_le hh vl he hp
      have bw := b1 (aWas h v e p)
      have ew : pw_I w2 55 ((v * 15 + e) * 6 + p) = nI (aWas h v e p) := (a2.I (by decide) _).trans (hC v (by omega) e he p hp)
      refine bX7_mostLeft_31 hw2 ((v * 15 + e) * 6 + p) (cellN v e p) (by omega) (aWas h v e p) ew (by omega) ?_
      have ih := ih (by omega) (pw_sI w2 56 (aWas h v e p) (pw_I w2 56 (aWas h v e p) + 1)) (a2.tr (ag.sI (by decide)))
      rw [aLfK_s, if_pos z] at ih
      rw [pw_same, T2 _ (by omega), nI_1, za_max (by omega) (by omega)]
      refine bX7_mostLeft_70 (hI hw2) ?_
      rw [nI_1]
      rw [T2 _ (by omega), nI_1] at ih
      refine ih (fun c hc => ?_)
      by_cases ec : c = aWas h v e p
      · subst ec
        rw [pw_same]
        exact congrArg nI za_us.symm
      · rw [pw_oth (fun _ q => ec q), T2 c hc]
        exact congrArg nI (za_un ec).symm
  exact key 0 (by omega) w1 a1 (fun c hc => f1 c hc)
end XO
