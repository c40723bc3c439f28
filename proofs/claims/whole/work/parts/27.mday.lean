/-! the reference: a HAMLET in its cells, a state in a row of fifteen, a day -/
def RMS (h : aH) (s : aS) (w : pw_W) (a : Nat) : Prop := (∀ i, i < aNp h → pw_I w a (6 + i) = nI (sL s i)) ∧ (∀ i, i < aNp h → pw_I w a i = nI (sF s i)) ∧ pw_I w a 12 = nI (sB s) ∧ pw_I w a 13 = nI (sD s) ∧ pw_I w a 14 = nI (sE s)
def RMH (h : aH) (w : pw_W) : Prop := (pw_I w 61 51 = nI (aNp h) ∧ pw_I w 61 52 = nI (aNm h) ∧ pw_I w 61 53 = nI (aNb h) ∧ pw_I w 61 54 = nI (aBd h) ∧ pw_I w 61 55 = nI (aFl h) ∧ pw_I w 61 56 = nI (aDr h) ∧ pw_I w 61 21 = nI (aUn h)) ∧
  (∀ i, i < aNp h → pw_I w 80 i = nI (aFm h i) ∧ pw_I w 81 i = nI (aLe h i) ∧ pw_I w 82 i = nI (aLu h i)) ∧
  (∀ i, i < aNm h → pw_I w 83 i = nI (aFi h i) ∧ pw_I w 84 i = nI (aSe h i) ∧ pw_I w 85 i = nI (aWk h i)) ∧
  (∀ b, b < aNb h → pw_I w 86 b = nI (aCo h b) ∧ pw_I w 88 b = nI (aRs h b)) ∧ mFm (aPr h) w
def RMR (h : aH) (ro : Nat → Nat) (w : pw_W) : Prop := ∀ b, b < aNb h → ∀ k, k < aRs h b → pw_I w 87 (6 * b + k) = nI (ro (6 * b + k))
theorem RMS.ag {h : aH} {s : aS} {w w' : pw_W} {a : Nat} {S : List Nat} (hS : RMS h s w a) (ha : ag S w w') (n : a ∉ S) : RMS h s w' a :=
  ⟨fun i hi => (ha.I n _).trans (hS.1 i hi), fun i hi => (ha.I n _).trans (hS.2.1 i hi), (ha.I n _).trans hS.2.2.1, (ha.I n _).trans hS.2.2.2.1, (ha.I n _).trans hS.2.2.2.2⟩
theorem mFm.ag {pr : List Int32} {w w' : pw_W} {S : List Nat} (h : mFm pr w) (ha : ag S w w') (n : 61 ∉ S ∧ 66 ∉ S ∧ 67 ∉ S) : mFm pr w' := by
  rcases h with ⟨h1, h2⟩ | ⟨h1, h2, h3⟩
  · exact Or.inl ⟨(ha.I n.1 _).trans h1, h2⟩
  · exact Or.inr ⟨(ha.I n.1 _).trans h1, (ha.I n.1 _).trans h2, fun i hi => by rw [ha.I n.2.1, ha.I n.2.2]; exact h3 i hi⟩
theorem RMH.ag {h : aH} {w w' : pw_W} {S : List Nat} (hH : RMH h w) (ha : ag S w w') (n : ∀ a ∈ [61, 66, 67, 80, 81, 82, 83, 84, 85, 86, 88], a ∉ S) : RMH h w' := by
  have n0 : 61 ∉ S := n 61 (by decide)
  refine ⟨⟨(ha.I n0 _).trans hH.1.1, (ha.I n0 _).trans hH.1.2.1, (ha.I n0 _).trans hH.1.2.2.1, (ha.I n0 _).trans hH.1.2.2.2.1, (ha.I n0 _).trans hH.1.2.2.2.2.1, (ha.I n0 _).trans hH.1.2.2.2.2.2.1, (ha.I n0 _).trans hH.1.2.2.2.2.2.2⟩, fun i hi => ?_, fun i hi => ?_, fun b hb => ?_, hH.2.2.2.2.ag ha ⟨n0, n 66 (by decide), n 67 (by decide)⟩⟩
  · rw [ha.I (n 80 (by decide)), ha.I (n 81 (by decide)), ha.I (n 82 (by decide))]; exact hH.2.1 i hi
  · rw [ha.I (n 83 (by decide)), ha.I (n 84 (by decide)), ha.I (n 85 (by decide))]; exact hH.2.2.1 i hi
  · rw [ha.I (n 86 (by decide)), ha.I (n 88 (by decide))]; exact hH.2.2.2.1 b hb
theorem RMR.ag {h : aH} {ro : Nat → Nat} {w w' : pw_W} {S : List Nat} (hR : RMR h ro w) (ha : ag S w w') (n : 87 ∉ S) : RMR h ro w' := fun b hb k hk => (ha.I n _).trans (hR b hb k hk)
section SET
variable {h : aH} {F L : Nat → Nat} {B D e : Nat} {w : pw_W} {a : Nat}
theorem RMS.setL (hS : RMS h (F, L, B, D, e) w a) (hn : aNp h ≤ 6) {p v : Nat} (hp : p < 6) {x : Int32} (hx : x = nI v) : RMS h (F, za_u L p v, B, D, e) (pw_sI w a (6 + p) x) a := by
  subst hx
  refine ⟨fun i hi => ?_, fun i hi => ?_, ?_, ?_, ?_⟩
  · by_cases hp : i = p
    · subst hp; rw [pw_same]; exact congrArg nI za_us.symm
    · rw [pw_oth (fun _ z => hp (by omega)), hS.1 i hi]; exact congrArg nI (za_un hp).symm
  · rw [pw_oth (fun _ z => by omega)]; exact hS.2.1 i hi
  · rw [pw_oth (fun _ z => by omega)]; exact hS.2.2.1
  · rw [pw_oth (fun _ z => by omega)]; exact hS.2.2.2.1
  · rw [pw_oth (fun _ z => by omega)]; exact hS.2.2.2.2
theorem RMS.setF (hS : RMS h (F, L, B, D, e) w a) {p v : Nat} (hp : p < 6) {x : Int32} (hx : x = nI v) : RMS h (za_u F p v, L, B, D, e) (pw_sI w a p x) a := by
  subst hx
  refine ⟨fun i hi => ?_, fun i hi => ?_, ?_, ?_, ?_⟩
  · rw [pw_oth (fun _ z => by omega)]; exact hS.1 i hi
  · by_cases hp : i = p
    · subst hp; rw [pw_same]; exact congrArg nI za_us.symm
    · rw [pw_oth (fun _ z => hp z), hS.2.1 i hi]; exact congrArg nI (za_un hp).symm
  · rw [pw_oth (fun _ z => by omega)]; exact hS.2.2.1
  · rw [pw_oth (fun _ z => by omega)]; exact hS.2.2.2.1
  · rw [pw_oth (fun _ z => by omega)]; exact hS.2.2.2.2
theorem RMS.setB (hS : RMS h (F, L, B, D, e) w a) (hn : aNp h ≤ 6) {v : Nat} {x : Int32} (hx : x = nI v) : RMS h (F, L, v, D, e) (pw_sI w a 12 x) a := by
  subst hx
  exact ⟨fun i hi => by rw [pw_oth (fun _ z => by omega)]; exact hS.1 i hi, fun i hi => by rw [pw_oth (fun _ z => by omega)]; exact hS.2.1 i hi, pw_same, by rw [pw_oth (fun _ z => by omega)]; exact hS.2.2.2.1, by rw [pw_oth (fun _ z => by omega)]; exact hS.2.2.2.2⟩
theorem RMS.setD (hS : RMS h (F, L, B, D, e) w a) (hn : aNp h ≤ 6) {v : Nat} {x : Int32} (hx : x = nI v) : RMS h (F, L, B, v, e) (pw_sI w a 13 x) a := by
  subst hx
  exact ⟨fun i hi => by rw [pw_oth (fun _ z => by omega)]; exact hS.1 i hi, fun i hi => by rw [pw_oth (fun _ z => by omega)]; exact hS.2.1 i hi, by rw [pw_oth (fun _ z => by omega)]; exact hS.2.2.1, pw_same, by rw [pw_oth (fun _ z => by omega)]; exact hS.2.2.2.2⟩
theorem RMS.setE (hS : RMS h (F, L, B, D, e) w a) (hn : aNp h ≤ 6) {v : Nat} {x : Int32} (hx : x = nI v) : RMS h (F, L, B, D, v) (pw_sI w a 14 x) a := by
  subst hx
  exact ⟨fun i hi => by rw [pw_oth (fun _ z => by omega)]; exact hS.1 i hi, fun i hi => by rw [pw_oth (fun _ z => by omega)]; exact hS.2.1 i hi, by rw [pw_oth (fun _ z => by omega)]; exact hS.2.2.1, by rw [pw_oth (fun _ z => by omega)]; exact hS.2.2.2.1, pw_same⟩
end SET
section MD
variable {E : px_E} {d : Nat} {w : pw_W} {Q : Option Value → pw_W → Prop} {t : ct_T} {h : aH} {s : aS}
theorem six (p : Nat) : (6 : Int32) + nI p = nI (6 + p) := nI_add 6 p
theorem pMfb (hS : RMS h s w 90) (hs : aWS h s) {i : Nat} (hi : i < 9) : pX10_isBanned w (nI i) ↔ (sB s).testBit i = true := by
  show js_shr (pw_I w 90 12) (nI i) &&& 1 = 1 ↔ _
  rw [hS.2.2.1]
  exact za_tb1 (by have := hs.2.1; omega) (by omega)
theorem pMab (hH : RMH h w) (hS : RMS h s w 90) (hh : aWH h) (hs : aWS h s) {i : Nat} (hi : i < aNp h) (x : Int32) : pX10_isAbed w x (6 + i) ↔ aBd h ≤ sL s i := by
  show ¬ (pw_I w 90 (6 + i) < pw_I w 61 54) ↔ _
  rw [hS.1 i hi, hH.1.2.2.2.1, nI_ltI (by have := (hs.1 i hi).2; omega) (by have := hh.2.2.2.1; omega)]
  omega
theorem tX10_takesPlace (hw : w.1 = cs t) (hH : RMH h w) (hS : RMS h s w 90) (hh : aWH h) (hs : aWS h s) {i : Nat} (hi : i < aNm h) (k : Q (some (.int (jb (aTp h s i)))) w) : px_Call E (d + 2) 0 0 mX10_takesPlace [.ref 61, .int (nI i)] w Q := by
  have h9 : i < 9 := by have := hh.2.1; omega
  obtain ⟨m1, m2, -, m4⟩ := hh.2.2.2.2.2.2.2.2.1 i hi
  obtain ⟨f1, f2, f3⟩ := hH.2.2.1 i hi
  have np := hh.1
  have no : ¬ aTp h s i → px_W E mX10_takesPlace (d + 2) 0 0 57 [.null, .null] [] w Q := fun z => bX10_takesPlace_57 hw (bX10_takesPlace_58 hw (Or.inl rfl) (by rw [jb_f z] at k; exact k))
  have ed : js_rem (pw_I w 90 13) 7 = nI (sD s % 7) := by rw [hS.2.2.2.1]; exact za_rem (d := 7) (by have := hs.2.2.1; omega) (by decide) (by decide)
  have eq : (js_rem (pw_I w 90 13) 7 = pw_I w 85 i) ↔ sD s % 7 = aWk h i := by rw [ed, f3]; exact nI_eq (by omega) (by omega)
  refine eX10_takesPlace hw i rfl h9 (fun q => no (fun z => q (eq.mpr z.1))) (fun _ q => no (fun z => ?_)) (fun q1 q2 => ?_)
  · have := (pMfb hS hs h9).mp q; rw [z.2.1] at this; cases this
  · refine bX10_takesPlace_27 hw i rfl h9 (6 + aFi h i) (by rw [f1, six]) (by omega) (fun q => no (fun z => ?_)) (fun q3 => ?_)
    · have := (pMab hH hS hh hs m1 _).mp q; omega
    · refine bX10_takesPlace_40 hw i rfl h9 (6 + aSe h i) (by rw [f2, six]) (by omega) (fun q => no (fun z => ?_)) (fun q4 => ?_)
      · have := (pMab hH hS hh hs m2 _).mp q; omega
      · refine bX10_takesPlace_58 hw (Or.inr rfl) ?_
        have : aTp h s i := ⟨eq.mp q1, by cases hq : (sB s).testBit i with
          | false => rfl
          | true => exact absurd ((pMfb hS hs h9).mpr hq) q2, Nat.not_le.mp (fun z => q3 ((pMab hH hS hh hs m1 _).mpr z)), Nat.not_le.mp (fun z => q4 ((pMab hH hS hh hs m2 _).mpr z))⟩
        rw [jb_t this] at k
        exact k
theorem tX10_swells {F L : Nat → Nat} {B D e : Nat} (hw : w.1 = cs t) (hn : aNp h ≤ 6) (hS : RMS h (F, L, B, D, e) w 90) {p v : Nat} (hp : p < aNp h) (h1 : L p ≤ 99) (h2 : v ≤ 20) (k : ∀ w', ag [90] w w' → RMS h (F, za_u L p (min 99 (L p + v)), B, D, e) w' 90 → Q none w') : px_Call E (d + 2) 0 0 mX10_swells [.ref 61, .int (nI p), .int (nI v)] w Q := by
  refine eX10_swells hw (6 + p) (six p) (by omega) (k _ (ag.sI List.mem_cons_self) (hS.setL hn (by omega) ?_))
  have e1 : pw_I w 90 (6 + p) = nI (L p) := hS.1 p hp
  rw [e1, nI_add]
  exact za_lesser (a := 99) (by decide) (by omega)
theorem tX10_soothes (hw : w.1 = cs t) (hH : RMH h w) (hS : RMS h s w 90) (hh : aWH h) (hs : aWS h s) {b p : Nat} (hb : b < aNb h) (hp : p < aNp h) (k : ∀ w', ag [90] w w' → RMS h (aCl h s b p) w' 90 → Q none w') : px_Call E (d + 2) 0 0 mX10_soothes [.ref 61, .int (nI b), .int (nI p)] w Q := by
  have np := hh.1
  have nb := hh.2.2.1
  refine eX10_soothes hw (6 + p) (six p) (by omega) b rfl (by omega) (k _ (ag.sI List.mem_cons_self) (hS.setL np (by omega) ?_))
  rw [hS.1 p hp, (hH.2.2.2.1 b hb).1]
  exact za_greater0 (by have := (hs.1 p hp).2; omega) (by have := (hh.2.2.2.2.2.2.2.2.2.1 b hb).1.2; omega)
theorem tX10_meets (hw : w.1 = cs t) (hH : RMH h w) (hS : RMS h s w 90) (hh : aWH h) (hs : aWS h s) {i : Nat} (hi : i < aNm h) (k : ∀ w', ag [69, 70, 90] w w' → RMS h (aMt h s i) w' 90 → Q none w') : px_Call E (d + 4) 0 0 mX10_meets [.ref 61, .int (nI i)] w Q := by
  have np := hh.1
  have h9 : i < 9 := by have := hh.2.1; omega
  obtain ⟨ha, hb, hab, -⟩ := hh.2.2.2.2.2.2.2.2.1 i hi
  obtain ⟨f1, f2, -⟩ := hH.2.2.1 i hi
  have q13 := hh.2.2.2.2.2.2.2.2.2.2.2.2
  show px_Call E (d + 4) 0 0 mX10_meets _ w Q
  unfold aMt at k
  refine eX10_meets hw i rfl h9 (aFi h i) f1 (by omega) (aSe h i) f2 (by omega) (6 + aFi h i) (by rw [f1, six]) (by omega) ?_
  rw [f1, f2]
  generalize aFi h i = a at ha hab k ⊢
  generalize aSe h i = b at hb hab k ⊢
  rw [hS.1 a ha, hS.2.1 a ha, hS.2.1 b hb]
  refine tX10_touchOf hw hH.2.2.2.2 q13.2 q13.1 _ _ _ _ hS.2.2.2.1 (fun w1 a1 => ?_)
  have hw1 := a1.1.trans hw
  have S1 := hS.ag a1 (by decide)
  have H1 := hH.ag a1 (by decide)
  refine bX10_meets_39 hw1 b rfl (by omega) a rfl (by omega) (6 + b) (six b) (by omega) ?_
  rw [S1.1 b hb, S1.2.1 b hb, S1.2.1 a ha]
  refine tX10_touchOf hw1 H1.2.2.2.2 q13.2 q13.1 _ _ _ _ S1.2.2.2.1 (fun w2 a2 => ?_)
  have hw2 := a2.1.trans hw1
  have S2 := S1.ag a2 (by decide)
  have g1 := hs.1 a ha
  have g2 := hs.1 b hb
  refine bX10_meets_66 hw2 (tX10_swells hw2 np S2 ha g1.2 (fClamp_le _) (fun w3 a3 S3 => ?_))
  have hw3 := a3.1.trans hw2
  refine bX10_meets_75 hw3 (tX10_swells hw3 np S3 hb ?_ (fClamp_le _) (fun w4 a4 S4 => ?_))
  · rw [za_un hab.symm]; exact g2.2
  have hw4 := a4.1.trans hw3
  have A4 : ag [69, 70, 90] w w4 := ((a1.mono (by simp)).tr (a2.mono (by simp))).tr ((a3.mono (by simp)).tr (a4.mono (by simp)))
  have e0 : za_u s.2.1 a (min 99 (s.2.1 a + fClamp ((fRun (nI (sF s a)) (nI (sF s b)) (nI (sL s a)) (nI (sD s)) (aPr h) []).getD 0 0))) b = s.2.1 b := za_un hab.symm
  rw [e0] at S4
  have H4 := hH.ag A4 (by decide)
  have F4 : ∀ p, p < aNp h → pw_I w4 90 p = nI (sF s p) := S4.2.1
  have l1 := (hh.2.2.2.2.2.2.2.1 a ha).2.1
  have l2 := (hh.2.2.2.2.2.2.2.1 b hb).2.1
  -- learn(a, b)
  refine bX10_meets_82 hw4 (eX10_learn hw4 a rfl (by omega) b rfl (by omega) (fun q => ?_) (fun q => ?_)) <;> rw [F4 a ha, F4 b hb] at q
  · have z := za_le (by omega) (by omega) q
    refine bX10_learn_43 hw4 ?_
    -- learn(b, a)
    refine bX10_meets_88 hw4 (eX10_learn hw4 b rfl (by omega) a rfl (by omega) (fun q2 => ?_) (fun q2 => ?_)) <;> rw [F4 a ha, F4 b hb] at q2
    · have z2 := za_le (by omega) (by omega) q2
      refine bX10_learn_43 hw4 (bX10_meets_94 hw4 (k w4 A4 ?_))
      unfold aMq
      rw [if_neg (by omega), if_neg (by omega)]
      exact S4
    · have z2 := za_nle (by omega) (by omega) q2
      refine bX10_learn_15 hw4 a rfl (by omega) b rfl (by omega) b rfl (by omega) ?_
      have e3 : hX10_lesser (pw_I w4 90 a) (pw_I w4 90 b + pw_I w4 81 b) = nI (min (sF s a) (sF s b + aLe h b)) := by
        rw [F4 a ha, F4 b hb, (H4.2.1 b hb).2.1, nI_add]; exact za_lesser (by omega) (by omega)
      refine bX10_learn_43 (hI hw4) (bX10_meets_94 (hI hw4) (k _ (A4.tr (ag.sI (by decide))) ?_))
      unfold aMq
      rw [if_neg (by omega), if_pos (by omega)]
      exact S4.setF (p := b) (by omega) e3
  · have z := za_nle (by omega) (by omega) q
    refine bX10_learn_15 hw4 b rfl (by omega) a rfl (by omega) a rfl (by omega) ?_
    have e3 : hX10_lesser (pw_I w4 90 b) (pw_I w4 90 a + pw_I w4 81 a) = nI (min (sF s b) (sF s a + aLe h a)) := by
      rw [F4 a ha, F4 b hb, (H4.2.1 a ha).2.1, nI_add]; exact za_lesser (by omega) (by omega)
    have S5 := S4.setF (p := a) (by omega) e3
    have A5 : ag [69, 70, 90] w (pw_sI w4 90 a (hX10_lesser (pw_I w4 90 b) (pw_I w4 90 a + pw_I w4 81 a))) := A4.tr (ag.sI (by decide))
    have ea : pw_I (pw_sI w4 90 a (hX10_lesser (pw_I w4 90 b) (pw_I w4 90 a + pw_I w4 81 a))) 90 a = nI (min (sF s b) (sF s a + aLe h a)) := by rw [pw_same]; exact e3
    have eb : pw_I (pw_sI w4 90 a (hX10_lesser (pw_I w4 90 b) (pw_I w4 90 a + pw_I w4 81 a))) 90 b = nI (sF s b) := by rw [pw_oth (fun _ z => hab z.symm)]; exact F4 b hb
    have hw5 : (pw_sI w4 90 a (hX10_lesser (pw_I w4 90 b) (pw_I w4 90 a + pw_I w4 81 a))).1 = cs t := hI hw4
    generalize pw_sI w4 90 a (hX10_lesser (pw_I w4 90 b) (pw_I w4 90 a + pw_I w4 81 a)) = w5 at S5 A5 ea eb hw5 ⊢
    refine bX10_learn_43 hw5 ?_
    refine bX10_meets_88 hw5 (eX10_learn hw5 b rfl (by omega) a rfl (by omega) (fun q2 => ?_) (fun q2 => ?_)) <;> rw [ea, eb] at q2
    · refine bX10_learn_43 hw5 (bX10_meets_94 hw5 (k w5 A5 ?_))
      unfold aMq
      rw [if_pos (by omega)]
      exact S5
    · have z2 := za_nle (by omega) (by omega) q2
      omega
theorem tX10_flaresUp (hw : w.1 = cs t) (hH : RMH h w) (hS : RMS h s w 90) (hh : aWH h) (hs : aWS h s) (k : ∀ w', ag [90] w w' → RMS h (aFs h (aNp h) s) w' 90 → Q none w') : px_Call E (d + 3) 0 0 mX10_flaresUp [.ref 61] w Q := by
  have np := hh.1
  refine eX10_flaresUp hw ?_
  have key : ∀ i, i ≤ aNp h → ∀ w1, ag [90] w w1 → RMS h (aFs h i s) w1 90 → px_W E mX10_flaresUp (d + 3) 0 0 2 [.ref 61, .int (nI i)] [] w1 Q := by
    refine za_up (aNp h) _ (fun i hi ih => ?_)
    intro w1 a1 S1
    have hw1 := a1.1.trans hw
    have H1 := hH.ag a1 (by decide)
    refine bX10_flaresUp_2 hw1 (fun q => ?_) (fun q => ?_) <;> rw [H1.1.1] at q
    · have : i = aNp h := by have := za_le (by omega) (by omega) q; omega
      subst this
      exact k w1 a1 S1
    · have hlt : i < aNp h := za_nle (by omega) (by omega) q
      have W1 := hs.fs i hi
      have g := W1.1 i hlt
      have gE := W1.2.2.2
      have fin : ∀ w2, ag [90] w1 w2 → RMS h (aFs h (i + 1) s) w2 90 → px_W E mX10_flaresUp (d + 3) 0 0 73 [.ref 61, .int (nI i)] [] w2 Q := by
        intro w2 a2 S2
        refine bX10_flaresUp_73 (a2.1.trans hw1) ?_
        rw [nI_1]
        exact ih hlt w2 (a1.tr a2) S2
      refine bX10_flaresUp_10 hw1 (6 + i) (six i) (by omega) (fun z => ?_) (fun z => ?_) <;> rw [S1.1 i hlt] at z
      · have z0 : sL (aFs h i s) i ≠ 0 := za_ne (b := 0) (by omega) (by omega) z
        have e1 : js_rem (pw_I w1 90 14 * 137 + 71) 1000 = nI ((sE (aFs h i s) * 137 + 71) % 1000) := by
          rw [S1.2.2.2.2]
          exact (congrArg (fun x => js_rem x 1000) (show nI (sE (aFs h i s)) * nI 137 + nI 71 = nI (sE (aFs h i s) * 137 + 71) by rw [pk_mul, nI_add])).trans (za_rem (d := 1000) (by omega) (by decide) (by decide))
        have e3 : js_rem (js_rem (pw_I w1 90 14 * 137 + 71) 1000) 100 = nI ((sE (aFs h i s) * 137 + 71) % 1000 % 100) := by
          rw [e1]; exact za_rem (d := 100) (by omega) (by decide) (by decide)
        have S2 := S1.setE np e1
        have a2 : ag [90] w1 (pw_sI w1 90 14 (js_rem (pw_I w1 90 14 * 137 + 71) 1000)) := ag.sI List.mem_cons_self
        have hfl := hh.2.2.2.2.1
        refine bX10_flaresUp_25 hw1 (fun q2 => ?_) (fun q2 => ?_) <;> rw [H1.1.2.2.2.2.1, e3] at q2 <;> generalize pw_sI w1 90 14 (js_rem (pw_I w1 90 14 * 137 + 71) 1000) = w2 at S2 a2 ⊢
        · have z1 := za_le (by omega) (by omega) q2
          refine fin w2 a2 ?_
          unfold aFs
          rw [if_neg z0, if_neg (by omega)]
          exact S2
        · have z1 := za_nle (by omega) (by omega) q2
          refine tX10_swells (v := 1) (a2.1.trans hw1) np S2 hlt g.2 (by omega) (fun w3 a3 S3 => ?_)
          refine fin w3 (a2.tr a3) ?_
          unfold aFs
          rw [if_neg z0, if_pos (by omega)]
          exact S3
      · have z0 : sL (aFs h i s) i = 0 := za_eq (b := 0) (by omega) (by omega) z
        refine fin w1 ag.rf ?_
        unfold aFs
        rw [if_pos z0]
        exact S1
  exact key 0 (Nat.zero_le _) w ag.rf hS
theorem tX10_goDay {ro : Nat → Nat} {fl : Bool} (hw : w.1 = cs t) (hH : RMH h w) (hS : RMS h s w 90) (hR : RMR h ro w) (hh : aWH h) (hs : aWS h s) (hro : aWR h ro) (k : ∀ w', ag [69, 70, 90] w w' → RMS h (aDay h ro fl s) w' 90 → Q (some (.int (nI (aMet h s)))) w') :
    px_Call E (d + 5) 0 0 mX10_goDay [.ref 61, .int (jb (fl = true))] w Q := by
  have np := hh.1
  have nm := hh.2.1
  have nb := hh.2.2.1
  refine eX10_goDay hw ?_
  have key : ∀ i, i ≤ aNm h → ∀ w1, ag [69, 70, 90] w w1 → RMS h (aMs h i s).1 w1 90 → px_W E mX10_goDay (d + 5) 0 0 4 [.ref 61, .int (jb (fl = true)), .int (nI (aMs h i s).2), .int (nI i)] [] w1 Q := by
    refine za_up (aNm h) _ (fun i hi ih => ?_)
    intro w1 a1 S1
    have hw1 := a1.1.trans hw
    have H1 := hH.ag a1 (by decide)
    have W1 := aWS.ms hh hs i hi
    refine bX10_goDay_4 hw1 (fun q => ?_) (fun q => ?_) <;> rw [H1.1.2.1] at q
    · have : i = aNm h := by have := za_le (by omega) (by omega) q; omega
      subst this
      have key2 : ∀ b, b ≤ aNb h → ∀ w1, ag [69, 70, 90] w w1 → RMS h (aBs h ro b (aMs h (aNm h) s).1) w1 90 → px_W E mX10_goDay (d + 5) 0 0 42 [.ref 61, .int (jb (fl = true)), .int (nI (aMs h (aNm h) s).2), .int (nI b)] [] w1 Q := by
        refine za_up (aNb h) _ (fun b hb ih2 => ?_)
        intro w1 a1 S1
        have hw1 := a1.1.trans hw
        have H1 := hH.ag a1 (by decide)
        have W2 := W1.bs (ro := ro) b
        have fin : ∀ w2 q, ag [69, 70, 90] w w2 → RMS h q w2 90 → (sF q, sL q, sB q, sD q + 1, sE q) = aDay h ro fl s → px_W E mX10_goDay (d + 5) 0 0 93 [.ref 61, .null, .int (nI (aMs h (aNm h) s).2), .null] [] w2 Q := by
          intro w2 q a2 S2 e2
          refine bX10_goDay_93 (a2.1.trans hw) (k _ (a2.tr (ag.sI (by decide))) ?_)
          rw [← e2]
          refine S2.setD np ?_
          rw [S2.2.2.2.1]
          exact nI_1 _
        refine bX10_goDay_42 hw1 (fun q z => ?_) (fun q z => ?_) (fun q => ?_) <;> rw [H1.1.2.2.1] at q
        · have : b = aNb h := by have := za_le (by omega) (by omega) q; omega
          subst this
          have ef : fl = false := by cases fl with
            | false => rfl
            | true => exact absurd z (by decide)
          subst ef
          exact fin w1 _ a1 S1 rfl
        · have : b = aNb h := by have := za_le (by omega) (by omega) q; omega
          subst this
          have ef : fl = true := by cases fl with
            | false => exact absurd rfl z
            | true => rfl
          subst ef
          refine tX10_flaresUp hw1 H1 S1 hh W2 (fun w2 a2 S2 => ?_)
          exact fin w2 _ (a1.tr (a2.mono (by simp))) S2 rfl
        · have hlt : b < aNb h := za_nle (by omega) (by omega) q
          obtain ⟨c1, c2⟩ := H1.2.2.2.1 b hlt
          obtain ⟨c3, c4, c5⟩ := hh.2.2.2.2.2.2.2.2.2.1 b hlt
          have em : sD (aBs h ro b (aMs h (aNm h) s).1) % aRs h b < aRs h b := Nat.mod_lt _ (by omega)
          have e1 : 6 * nI b + js_rem (pw_I w1 90 13) (pw_I w1 88 b) = nI (6 * b + sD (aBs h ro b (aMs h (aNm h) s).1) % aRs h b) := by
            rw [S1.2.2.2.1, c2, za_rem (by have := W2.2.2.1; omega) (by omega) (by omega)]
            exact (show nI 6 * nI b + _ = _ by rw [pk_mul, nI_add])
          have hp := hro b hlt _ em
          refine bX10_goDay_50 hw1 b rfl (by omega) (by rw [c2]; exact nI_ne0 (by omega) (by omega)) _ e1 (by omega) ?_
          rw [(hR.ag a1 (by decide)) b hlt _ em]
          refine tX10_soothes hw1 H1 S1 hh W2 hlt hp (fun w2 a2 S2 => ?_)
          refine bX10_goDay_79 (a2.1.trans hw1) ?_
          rw [nI_1]
          refine ih2 hlt w2 (a1.tr (a2.mono (by simp))) ?_
          rw [aBs_D] at S2
          exact S2
      exact key2 0 (Nat.zero_le _) w1 a1 S1
    · have hlt : i < aNm h := za_nle (by omega) (by omega) q
      refine tX10_takesPlace hw1 H1 S1 hh W1 hlt ?_
      have nxt : ∀ w2, ag [69, 70, 90] w1 w2 → RMS h (aMs h (i + 1) s).1 w2 90 → px_W E mX10_goDay (d + 5) 0 0 34 [.ref 61, .int (jb (fl = true)), .int (nI (aMs h (i + 1) s).2), .int (nI i)] [] w2 Q := by
        intro w2 a2 S2
        refine bX10_goDay_34 (a2.1.trans hw1) ?_
        rw [nI_1]
        exact ih hlt w2 (a1.tr a2) S2
      refine bX10_goDay_17 hw1 (fun z => ?_) (fun z => ?_)
      · have z : aTp h (aMs h i s).1 i := Classical.not_not.mp (fun y => z (jb_eq0.mpr y))
        have e : aMs h (i + 1) s = (aMt h (aMs h i s).1 i, (aMs h i s).2 ||| 2 ^ i) := by conv => lhs; unfold aMs; rw [if_pos z]
        refine tX10_meets hw1 H1 S1 hh W1 hlt (fun w2 a2 S2 => ?_)
        refine bX10_goDay_28 (a2.1.trans hw1) ?_
        rw [za_bit1 (by omega), za_or]
        have e2 : (aMs h i s).2 ||| 2 ^ i = (aMs h (i + 1) s).2 := by rw [e]
        rw [e2]
        exact nxt w2 a2 (by rw [e]; exact S2)
      · have z := jb_eq0.mp z
        have e : aMs h (i + 1) s = aMs h i s := by conv => lhs; unfold aMs; rw [if_neg z]
        rw [← e]
        exact nxt w1 ag.rf (by rw [e]; exact S1)
  exact key 0 (Nat.zero_le _) w ag.rf hS
end MD
