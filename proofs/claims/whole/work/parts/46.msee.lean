/-! the reference: what is seen -/
def MCf (h : aH) (w : pw_W) (v : Nat) : Prop := ∀ v', v' < v → ∀ d, d ≤ 14 → ∀ p, p < aNp h → pw_I w 103 (90 * v' + 6 * d + p) = nI (aWas h v' d p)
def MFi (f : Nat → Bool) (w : pw_W) (v : Nat) : Prop := ∀ v', v' < v → pw_I w 105 v' = jb (f v' = true)
theorem MCf.ag {h : aH} {w w' : pw_W} {v : Nat} {S : List Nat} (hC : MCf h w v) (ha : ag S w w') (n : 103 ∉ S) : MCf h w' v := fun v' h1 d h2 p h3 => (ha.I n _).trans (hC v' h1 d h2 p h3)
theorem MFi.ag {f : Nat → Bool} {w w' : pw_W} {v : Nat} {S : List Nat} (hC : MFi f w v) (ha : ag S w w') (n : 105 ∉ S) : MFi f w' v := fun v' h1 => (ha.I n _).trans (hC v' h1)
theorem wasN (v d p : Nat) : 90 * nI v + 6 * nI d + nI p = nI (90 * v + 6 * d + p) := by
  rw [show (90 : Int32) = nI 90 from rfl, show (6 : Int32) = nI 6 from rfl, pk_mul, pk_mul, nI_add, nI_add]
section MD
variable {E : px_E} {d : Nat} {w : pw_W} {Q : Option Value → pw_W → Prop} {t : ct_T} {h : aH} {s : aS}
theorem aU_neg {u : Nat} (hu : u ≤ 100001) : aU u < 0 ↔ u = 0 := by
  unfold aU
  split
  · rename_i z; exact ⟨fun _ => z, fun _ => by decide⟩
  · rename_i z; exact ⟨fun y => absurd y (nI_pos (by omega)), fun y => absurd y z⟩
theorem tX10_fitsFirm {g : aG} {n tm v : Nat} {x : Int32} (hw : w.1 = cs t) (hh : aWH h) (hG : MSg g n w) (hg : aWG h g n tm) (hN : pw_I w 61 78 = nI n) (hv : v ≤ 30) (hC : ∀ d, d ≤ 14 → ∀ p, p < aNp h → pw_I w 103 (90 * v + 6 * d + p) = nI (aWas h v d p)) (k : Q (some (.int (jb (aAgK h g v x n = true)))) w) :
    px_Call E (d + 1) 0 0 mX10_fitsFirm [.ref 61, .int (nI v), .int x] w Q := by
  have np := hh.1
  have n30 := hg.1
  refine eX10_fitsFirm hw ?_
  have key : ∀ j, j ≤ n → ∀ b : Bool, aAgK h g v x j = b → px_W E mX10_fitsFirm (d + 1) 0 0 5 [.ref 61, .int (nI v), .int x, .int (jb (b = true)), .int (nI j)] [] w Q := by
    refine za_up n _ (fun j hj ih => ?_)
    intro b hb
    cases b with
    | false =>
      have e := aAgK_no (n := n) hj hb
      rw [e] at k
      have kk := bX10_fitsFirm_118 (E := E) (d := d) (t := t) hw (Or.inl rfl) k
      exact bX10_fitsFirm_5 hw (fun _ => kk) (fun _ _ => kk) (fun _ z => absurd rfl z)
    | true =>
      refine bX10_fitsFirm_5 hw (fun q => ?_) (fun _ z => absurd z (by decide)) (fun q _ => ?_) <;> rw [hN] at q
      · have : j = n := by have := za_le (by omega) (by omega) q; omega
        subst this
        rw [hb] at k
        exact bX10_fitsFirm_118 hw (Or.inr rfl) k
      · have hlt : j < n := za_nle (by omega) (by omega) q
        obtain ⟨g0, g1, g2, g3, g4, g5⟩ := hg.2.2 j hlt
        obtain ⟨e0, e1, e2, e3, e4, e5⟩ := hG j hlt
        have yes : ∀ b', aAgK h g v x (j + 1) = b' → px_W E mX10_fitsFirm (d + 1) 0 0 112 [.ref 61, .int (nI v), .int x, .int (jb (b' = true)), .int (nI j)] [] w Q := by
          intro b' e
          refine bX10_fitsFirm_112 hw ?_
          rw [nI_1]
          exact ih hlt b' e
        have skip : ¬ aCnt g j x → px_W E mX10_fitsFirm (d + 1) 0 0 112 [.ref 61, .int (nI v), .int x, .int (jb (true = true)), .int (nI j)] [] w Q := fun z => yes true (aAgK_yes hb (fun c => absurd c z))
        have wl := aWas_le hh hv g0 g1
        have s53 : aCnt g j x → px_W E mX10_fitsFirm (d + 1) 0 0 53 [.ref 61, .int (nI v), .int x, .null, .int (nI j)] [] w Q := by
          intro c
          have go : ∀ y : Nat, (if aWas h v (g 0 j) (g 1 j) < g 2 j then 0 else 1) = y → y ≤ 1 → px_W E mX10_fitsFirm (d + 1) 0 0 96 [.ref 61, .int (nI v), .int x, .null, .int (nI j)] [.int (nI y)] w Q := by
            intro y hy y1
            refine bX10_fitsFirm_96 hw j rfl (by omega) (fun z3 => ?_) (fun z3 => ?_) <;> rw [e3] at z3 <;> refine bX10_fitsFirm_111 hw ?_
            · have no : ¬ aAg1 h g v j := fun q => z3 (by rw [← hy]; exact congrArg nI q)
              exact yes false (aAgK_nay c no)
            · exact yes true (aAgK_yes hb (fun _ => hy.trans (za_eq (by omega) (by omega) z3)))
          refine bX10_fitsFirm_53 hw j rfl (by omega) (90 * v + 6 * g 0 j + g 1 j) (by rw [e0, e1]; exact wasN _ _ _) (by omega) (fun z3 => ?_) (fun z3 => ?_) <;> rw [hC _ g0 _ g1, e2] at z3
          · exact go 0 (if_pos (za_lt (by omega) (by omega) z3)) (by omega)
          · exact go 1 (if_neg (by have := za_nlt (by omega) (by omega) z3; omega)) (by omega)
        refine bX10_fitsFirm_18 hw j rfl (by omega) (fun a => skip (fun c => c.1 (by rw [e4] at a; exact a))) (fun a => ?_)
        rw [e4] at a
        refine bX10_fitsFirm_29 hw j rfl (by omega) (fun b => s53 ⟨a, Or.inl ((aU_neg g5).mp (by rw [e5] at b; exact b))⟩) (fun b => ?_)
        rw [e5, aU_neg g5] at b
        refine bX10_fitsFirm_39 hw j rfl (by omega) (fun c => s53 ⟨a, Or.inr ?_⟩) (fun c => skip (fun q => ?_)) <;> rw [e5] at c <;> unfold aU at c <;> rw [if_neg b] at c
        · exact c
        · exact q.2.elim b c
  exact key 0 (Nat.zero_le _) true rfl
theorem tX10_layFits {g : aG} {n tm : Nat} {x : Int32} (hw : w.1 = cs t) (hH : RMH h w) (hR : RMR h (aRo h) w) (hh : aWH h) (hG : MSg g n w) (hg : aWG h g n tm) (hN : pw_I w 61 78 = nI n) (k : ∀ w', ag [69, 70, 90, 103, 105] w w' → (0 < aNp h → MCf h w' 31 ∧ MFi (fun v => aAgK h g v x n) w' 31) → Q (some (.int (if aNp h = 0 then 0 else nI (aCtK (fun v => aAgK h g v x n) 31)))) w') :
    px_Call E (d + 8) 0 0 mX10_layFits [.ref 61, .int x] w Q := by
  have np := hh.1
  refine eX10_layFits hw ?_
  by_cases hz : aNp h = 0
  · have kk := k w ag.rf (fun z => by omega)
    rw [if_pos hz] at kk
    refine bX10_layFits_4 hw (fun _ => bX10_layFits_131 hw kk) (fun _ _ => bX10_layFits_131 hw kk) (fun _ z => absurd (by rw [hH.1.1, hz]; decide) z)
  · have key : ∀ v, v ≤ 31 → ∀ w1, ag [69, 70, 90, 103, 105] w w1 → MCf h w1 v → MFi (fun v => aAgK h g v x n) w1 v → px_W E mX10_layFits (d + 8) 0 0 4 [.ref 61, .int x, .int (nI (aCtK (fun v => aAgK h g v x n) v)), .int (nI v), .null, .null] [] w1 Q := by
      refine za_up 31 _ (fun v hv ih => ?_)
      intro w1 a1 C1 F1
      have hw1 := a1.1.trans hw
      have H1 := hH.ag a1 (by decide)
      have O1 := hR.ag a1 (by decide)
      have ct := aCtK_le (fun v => aAgK h g v x n) v
      refine bX10_layFits_4 hw1 (fun q => ?_) (fun _ z => ?_) (fun q _ => ?_)
      · have : v = 31 := by have := za_lt (a := 30) (by omega) (by omega) q; omega
        subst this
        have kk := k w1 a1 (fun _ => ⟨C1, F1⟩)
        rw [if_neg hz] at kk
        exact bX10_layFits_131 hw1 kk
      · rw [H1.1.1] at z
        have := za_le (b := 0) (by omega) (by omega) z
        omega
      · have vl : v ≤ 30 := za_nlt (a := 30) (by omega) (by omega) q
        refine tX10_layTold hw1 H1 hh (fun w2 a2 S2 => ?_)
        have hw2 := a2.1.trans hw1
        have H2 := H1.ag a2 (by decide)
        refine bX10_layFits_21 hw2 (aNp h - 1) (by rw [H2.1.1]; exact pk_sub (b := 1) (by omega)) (by omega) ?_
        have S3 : RMS h (aWas0 h v) (pw_sI w2 90 (aNp h - 1) (nI v)) 90 := S2.setF (p := aNp h - 1) (by omega) rfl
        have A3 : ag [69, 70, 90, 103] w1 (pw_sI w2 90 (aNp h - 1) (nI v)) := (a2.mono (by simp)).tr (ag.sI (by decide))
        have C3 : MCf h (pw_sI w2 90 (aNp h - 1) (nI v)) v := (C1.ag a2 (by decide)).ag (S := [90]) (ag.sI (by decide)) (by decide)
        generalize pw_sI w2 90 (aNp h - 1) (nI v) = w3 at S3 A3 C3 ⊢
        have W0 := aWas0_W hh vl
        have key2 : ∀ e, e ≤ 15 → ∀ w4, ag [69, 70, 90, 103] w1 w4 → MCf h w4 v → (∀ e', e' < e → ∀ p, p < aNp h → pw_I w4 103 (90 * v + 6 * e' + p) = nI (aWas h v e' p)) → RMS h (aDays h (aRo h) false e (aWas0 h v)) w4 90 → px_W E mX10_layFits (d + 8) 0 0 36 [.ref 61, .int x, .int (nI (aCtK (fun v => aAgK h g v x n) v)), .int (nI v), .int (nI e), .null] [] w4 Q := by
          refine za_up 15 _ (fun e he ih2 => ?_)
          intro w4 A4 C4 D4 S4
          have hw4 := A4.1.trans hw1
          have A4' : ag [69, 70, 90, 103, 105] w w4 := a1.tr (A4.mono (by simp))
          refine bX10_layFits_36 hw4 (fun z => ?_) (fun z => ?_)
          · have : e = 15 := by have := za_lt (a := 14) (by omega) (by omega) z; omega
            subst this
            refine tX10_fitsFirm hw4 hh (hG.agF (F := []) (agF.of A4') (by decide)) hg ((A4'.I (by decide) _).trans hN) vl (fun e' h1 p h2 => D4 e' (by omega) p h2) ?_
            refine bX10_layFits_112 hw4 v rfl (by omega) jb_01 v rfl (by omega) ?_
            rw [pw_same, truth_jb, nI_1]
            have ec : nI (aCtK (fun v => aAgK h g v x n) v) + jb (aAgK h g v x n = true) = nI (aCtK (fun v => aAgK h g v x n) (v + 1)) := by
              show _ = nI (aCtK (fun v => aAgK h g v x n) v + (if aAgK h g v x n = true then 1 else 0))
              by_cases y : aAgK h g v x n = true
              · rw [jb_t y, if_pos y, nI_1]
              · rw [jb_f y, if_neg y]
                exact nI_add _ 0
            rw [ec]
            refine ih (by omega) _ (A4'.tr (ag.sI (by decide))) (fun v' h1 e' h2 p h3 => ?_) (fun v' h1 => ?_)
            · rw [pw_oth (fun z _ => by omega)]
              by_cases ev : v' = v
              · subst ev; exact D4 e' (by omega) p h3
              · exact C4 v' (by omega) e' h2 p h3
            · by_cases ev : v' = v
              · subst ev; exact pw_same
              · rw [pw_oth (fun _ z => ev z)]
                exact (A4.I (by decide) _).trans (F1 v' (by omega))
          · have el : e ≤ 14 := za_nlt (a := 14) (by omega) (by omega) z
            obtain ⟨W4, D5⟩ := aWS.days (ro := aRo h) (fl := false) hh W0 e (by show 0 + e < 5000; omega)
            have key3 : ∀ p, p ≤ aNp h → ∀ w5, ag [103] w4 w5 → MCf h w5 v → (∀ e', e' < e → ∀ p, p < aNp h → pw_I w5 103 (90 * v + 6 * e' + p) = nI (aWas h v e' p)) → (∀ q, q < p → pw_I w5 103 (90 * v + 6 * e + q) = nI (aWas h v e q)) → px_W E mX10_layFits (d + 8) 0 0 46 [.ref 61, .int x, .int (nI (aCtK (fun v => aAgK h g v x n) v)), .int (nI v), .int (nI e), .int (nI p)] [] w5 Q := by
              refine za_up _ _ (fun p hp ih3 => ?_)
              intro w5 A5 C5 D5 F5
              have hw5 := A5.1.trans hw4
              have B5 : ag [69, 70, 90, 103, 105] w w5 := A4'.tr (A5.mono (by simp))
              have H5 := hH.ag B5 (by decide)
              have S5 := S4.ag A5 (by decide)
              refine bX10_layFits_46 hw5 (fun y => ?_) (fun y => ?_) <;> rw [H5.1.1] at y
              · have : p = aNp h := by have := za_le (by omega) (by omega) y; omega
                subst this
                refine tX10_goDay (fl := false) hw5 H5 S5 (hR.ag B5 (by decide)) hh W4 hh.ro (fun w6 A6 S6 => ?_)
                refine bX10_layFits_94 (A6.1.trans hw5) ?_
                rw [nI_1]
                refine ih2 (by omega) w6 (A4.tr ((A5.mono (by simp)).tr (A6.mono (by simp)))) (C5.ag A6 (by decide)) (fun e' h1 q h2 => ?_) S6
                rw [A6.I (by decide)]
                by_cases ee : e' = e
                · subst ee; exact F5 q h2
                · exact D5 e' (by omega) q h2
              · have pl : p < aNp h := za_nle (by omega) (by omega) y
                refine bX10_layFits_55 hw5 (6 + p) (six p) (by omega) (90 * v + 6 * e + p) (wasN v e p) (by omega) ?_
                rw [S5.1 p pl, nI_1]
                refine ih3 pl _ (A5.tr (ag.sI (by decide))) (fun v' h1 e' h2 q h3 => ?_) (fun e' h1 q h2 => ?_) (fun q h1 => ?_)
                · rw [pw_oth (fun _ z => by omega)]; exact C5 v' h1 e' h2 q h3
                · rw [pw_oth (fun _ z => by omega)]; exact D5 e' h1 q h2
                · by_cases eq : q = p
                  · subst eq; exact pw_same
                  · rw [pw_oth (fun _ z => by omega)]; exact F5 q (by omega)
            exact key3 0 (Nat.zero_le _) w4 ag.rf C4 D4 (fun q hq => absurd hq (Nat.not_lt_zero _))
        exact key2 0 (by omega) w3 A3 C3 (fun e' h1 => absurd h1 (Nat.not_lt_zero _)) S3
    exact key 0 (by omega) w ag.rf (fun v' h1 => absurd h1 (Nat.not_lt_zero _)) (fun v' h1 => absurd h1 (Nat.not_lt_zero _))
theorem tX10_leftBy {g : aG} {n e p : Nat} {x : Int32} (hw : w.1 = cs t) (hh : aWH h) (hC : MCf h w 31) (hF : MFi (fun v => aAgK h g v x n) w 31) (he : e ≤ 14) (hp : p < aNp h) (k : ∀ w', ag [104] w w' → Q (some (.int (nI (aLf h g n x e p)))) w') :
    px_Call E (d + 2) 0 0 mX10_leftBy [.ref 61, .int (nI e), .int (nI p)] w Q := by
  have np := hh.1
  refine eX10_leftBy hw ?_
  have key : ∀ v, v ≤ 31 → ∀ w2, ag [104] w w2 → (∀ c, c < 100 → pw_I w2 104 c = nI ((aLfK (fun v => aAgK h g v x n) (fun v => aWas h v e p) v).1 c)) → px_W E mX10_leftBy (d + 2) 0 0 26 [.ref 61, .int (nI e), .int (nI p), .int (nI (aLfK (fun v => aAgK h g v x n) (fun v => aWas h v e p) v).2), .int (nI v), .null] [] w2 Q := by
    refine za_up 31 _ (fun v hv ih => ?_)
    intro w2 a2 T2
    have hw2 := a2.1.trans hw
    obtain ⟨b1, b2⟩ := aLfK_le (fun v => aAgK h g v x n) (fun v => aWas h v e p) v
    refine bX10_leftBy_26 hw2 (fun y => ?_) (fun y => ?_)
    · have : v = 31 := by have := za_lt (a := 30) (by omega) (by omega) y; omega
      subst this
      exact k w2 a2
    · have vl : v ≤ 30 := za_nlt (a := 30) (by omega) (by omega) y
      have ef : pw_I w2 105 v = jb (aAgK h g v x n = true) := (a2.I (by decide) _).trans (hF v (by omega))
      refine bX10_leftBy_33 hw2 v rfl (by omega) (fun z => ?_) (fun z => ?_) <;> rw [ef, jb_eq0] at z
      · have z := Classical.not_not.mp z
        have wl := aWas_le hh vl he hp
        have bw := b1 (aWas h v e p)
        have ew : pw_I w2 103 (90 * v + 6 * e + p) = nI (aWas h v e p) := (a2.I (by decide) _).trans (hC v (by omega) e he p hp)
        refine bX10_leftBy_46 hw2 (90 * v + 6 * e + p) (wasN v e p) (by omega) (aWas h v e p) ew (by omega) ?_
        have ih := ih (by omega) (pw_sI w2 104 (aWas h v e p) (pw_I w2 104 (aWas h v e p) + 1)) (a2.tr (ag.sI (by decide)))
        rw [aLfK_s, if_pos z] at ih
        rw [pw_same, T2 _ (by omega), nI_1, za_greater (by omega) (by omega)]
        refine bX10_leftBy_88 (hI hw2) ?_
        rw [nI_1]
        rw [T2 _ (by omega), nI_1] at ih
        refine ih (fun c hc => ?_)
        by_cases ec : c = aWas h v e p
        · subst ec
          rw [pw_same]
          exact congrArg nI za_us.symm
        · rw [pw_oth (fun _ q => ec q), T2 c hc]
          exact congrArg nI (za_un ec).symm
      · refine bX10_leftBy_88 hw2 ?_
        have ih := ih (by omega) w2 a2
        rw [aLfK_s, if_neg z] at ih
        rw [nI_1]
        exact ih T2
  have key0 : ∀ c, c ≤ 100 → ∀ w2, ag [104] w w2 → (∀ j, j < c → pw_I w2 104 j = 0) → px_W E mX10_leftBy (d + 2) 0 0 2 [.ref 61, .int (nI e), .int (nI p), .int (nI c), .null, .null] [] w2 Q := by
    refine za_up 100 _ (fun c hc ih => ?_)
    intro w2 a2 f2
    have hw2 := a2.1.trans hw
    refine bX10_leftBy_2 hw2 (fun y => ?_) (fun y => ?_)
    · have : c = 100 := by have := za_lt (a := 99) (by omega) (by omega) y; omega
      subst this
      exact key 0 (by omega) w2 a2 (fun j hj => f2 j hj)
    · have cl : c ≤ 99 := za_nlt (a := 99) (by omega) (by omega) y
      refine bX10_leftBy_8 hw2 c rfl (by omega) ?_
      rw [nI_1]
      refine ih (by omega) _ (a2.tr (ag.sI (by decide))) (fun j hj => ?_)
      by_cases ej : j = c
      · subst ej; exact pw_same
      · rw [pw_oth (fun _ z => ej z)]; exact f2 j (by omega)
  exact key0 0 (by omega) w ag.rf (fun j hj => absurd hj (Nat.not_lt_zero _))
end MD
