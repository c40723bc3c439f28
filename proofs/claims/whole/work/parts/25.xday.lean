/-! the class: a HAMLET in its cells, a state in its cells, a day -/
def RXS (h : aH) (s : aS) (w : pw_W) (r : Nat) : Prop := (∀ i, i < aNp h → pw_I w (r + 1) i = nI (sL s i)) ∧ (∀ i, i < aNp h → pw_I w (r + 2) i = nI (sF s i)) ∧ pw_I w r 2 = nI (sB s) ∧ pw_I w r 3 = nI (sD s) ∧ pw_I w r 4 = nI (sE s)
def RXH (h : aH) (w : pw_W) (r : Nat) : Prop := (pw_I w r 0 = nI (aNp h) ∧ pw_I w r 4 = nI (aNm h) ∧ pw_I w r 8 = nI (aNb h) ∧ pw_I w r 12 = nI (aBd h) ∧ pw_I w r 13 = nI (aFl h) ∧ pw_I w r 14 = nI (aDr h)) ∧
  (∀ i, i < aNp h → pw_I w (r + 1) i = nI (aFm h i) ∧ pw_I w (r + 2) i = nI (aLe h i) ∧ pw_I w (r + 3) i = nI (aLu h i)) ∧
  (∀ i, i < aNm h → pw_I w (r + 4) i = nI (aFi h i) ∧ pw_I w (r + 5) i = nI (aSe h i) ∧ pw_I w (r + 6) i = nI (aWk h i)) ∧
  (∀ b, b < aNb h → pw_I w (r + 7) b = nI (aCo h b) ∧ pw_I w (r + 8) b = nI (aRs h b)) ∧ (∀ b, b < aNb h → ∀ k, k < aRs h b → pw_I w (r + 9) (6 * b + k) = nI (aRo h (6 * b + k))) ∧
  pw_I w (r + 10) 2 = nI (aPr h).length ∧ pw_I w (r + 10) 3 = nI (aUn h) ∧ ∀ i, i < (aPr h).length → pw_I w (r + 11) i = (aPr h).getD i 0
theorem RXS.ag {h : aH} {s : aS} {w w' : pw_W} {r : Nat} {S : List Nat} (hS : RXS h s w r) (ha : ag S w w') (n0 : r ∉ S) (n1 : r + 1 ∉ S) (n2 : r + 2 ∉ S) : RXS h s w' r :=
  ⟨fun i hi => (ha.I n1 i).trans (hS.1 i hi), fun i hi => (ha.I n2 i).trans (hS.2.1 i hi), (ha.I n0 2).trans hS.2.2.1, (ha.I n0 3).trans hS.2.2.2.1, (ha.I n0 4).trans hS.2.2.2.2⟩
theorem RXH.ag {h : aH} {w w' : pw_W} {r : Nat} {S : List Nat} (hH : RXH h w r) (ha : ag S w w') (n : ∀ k, k ≤ 11 → r + k ∉ S) : RXH h w' r := by
  have n0 : r ∉ S := n 0 (by omega)
  refine ⟨⟨(ha.I n0 0).trans hH.1.1, (ha.I n0 4).trans hH.1.2.1, (ha.I n0 8).trans hH.1.2.2.1, (ha.I n0 12).trans hH.1.2.2.2.1, (ha.I n0 13).trans hH.1.2.2.2.2.1, (ha.I n0 14).trans hH.1.2.2.2.2.2⟩, fun i hi => ?_, fun i hi => ?_, fun b hb => ?_, fun b hb k hk => ?_, (ha.I (n 10 (by omega)) 2).trans hH.2.2.2.2.2.1, (ha.I (n 10 (by omega)) 3).trans hH.2.2.2.2.2.2.1, fun i hi => (ha.I (n 11 (by omega)) i).trans (hH.2.2.2.2.2.2.2 i hi)⟩
  · rw [ha.I (n 1 (by omega)), ha.I (n 2 (by omega)), ha.I (n 3 (by omega))]; exact hH.2.1 i hi
  · rw [ha.I (n 4 (by omega)), ha.I (n 5 (by omega)), ha.I (n 6 (by omega))]; exact hH.2.2.1 i hi
  · rw [ha.I (n 7 (by omega)), ha.I (n 8 (by omega))]; exact hH.2.2.2.1 b hb
  · rw [ha.I (n 9 (by omega))]; exact hH.2.2.2.2.1 b hb k hk
theorem xd_H {r0 r1 k : Nat} (h0 : is_Hamlet r0) (h1 : is_State r1) (hk : k ≤ 11) : r0 + k ∉ [r1, r1 + 1, r1 + 2, r0 + 12] := by
  rcases h0 with rfl | rfl <;> rcases h1 with rfl | rfl | rfl <;> simp <;> omega
theorem xd_S {r0 r1 : Nat} (h0 : is_Hamlet r0) (h1 : is_State r1) : r1 ∉ [r0 + 12] ∧ r1 + 1 ∉ [r0 + 12] ∧ r1 + 2 ∉ [r0 + 12] := by
  rcases h0 with rfl | rfl <;> rcases h1 with rfl | rfl | rfl <;> simp
theorem xd_12 {r0 k : Nat} (hk : k ≤ 11) : r0 + k ∉ [r0 + 12] := by simp; omega
section SET
variable {h : aH} {F L : Nat → Nat} {B D e : Nat} {w : pw_W} {r : Nat}
theorem RXS.setL (hS : RXS h (F, L, B, D, e) w r) {p v : Nat} {x : Int32} (hx : x = nI v) : RXS h (F, za_u L p v, B, D, e) (pw_sI w (r + 1) p x) r := by
  subst hx
  refine ⟨fun i hi => ?_, fun i hi => ?_, ?_, ?_, ?_⟩
  · by_cases hp : i = p
    · subst hp; rw [pw_same]; exact congrArg nI za_us.symm
    · rw [pw_oth (fun _ z => hp z), hS.1 i hi]; exact congrArg nI (za_un hp).symm
  · rw [pw_oth (fun z _ => by omega)]; exact hS.2.1 i hi
  · rw [pw_oth (fun z _ => by omega)]; exact hS.2.2.1
  · rw [pw_oth (fun z _ => by omega)]; exact hS.2.2.2.1
  · rw [pw_oth (fun z _ => by omega)]; exact hS.2.2.2.2
theorem RXS.setF (hS : RXS h (F, L, B, D, e) w r) {p v : Nat} {x : Int32} (hx : x = nI v) : RXS h (za_u F p v, L, B, D, e) (pw_sI w (r + 2) p x) r := by
  subst hx
  refine ⟨fun i hi => ?_, fun i hi => ?_, ?_, ?_, ?_⟩
  · rw [pw_oth (fun z _ => by omega)]; exact hS.1 i hi
  · by_cases hp : i = p
    · subst hp; rw [pw_same]; exact congrArg nI za_us.symm
    · rw [pw_oth (fun _ z => hp z), hS.2.1 i hi]; exact congrArg nI (za_un hp).symm
  · rw [pw_oth (fun z _ => by omega)]; exact hS.2.2.1
  · rw [pw_oth (fun z _ => by omega)]; exact hS.2.2.2.1
  · rw [pw_oth (fun z _ => by omega)]; exact hS.2.2.2.2
theorem RXS.setB (hS : RXS h (F, L, B, D, e) w r) {v : Nat} {x : Int32} (hx : x = nI v) : RXS h (F, L, v, D, e) (pw_sI w r 2 x) r := by
  subst hx
  exact ⟨fun i hi => by rw [pw_oth (fun z _ => by omega)]; exact hS.1 i hi, fun i hi => by rw [pw_oth (fun z _ => by omega)]; exact hS.2.1 i hi, pw_same, by rw [pw_oth (fun _ z => by omega)]; exact hS.2.2.2.1, by rw [pw_oth (fun _ z => by omega)]; exact hS.2.2.2.2⟩
theorem RXS.setD (hS : RXS h (F, L, B, D, e) w r) {v : Nat} {x : Int32} (hx : x = nI v) : RXS h (F, L, B, v, e) (pw_sI w r 3 x) r := by
  subst hx
  exact ⟨fun i hi => by rw [pw_oth (fun z _ => by omega)]; exact hS.1 i hi, fun i hi => by rw [pw_oth (fun z _ => by omega)]; exact hS.2.1 i hi, by rw [pw_oth (fun _ z => by omega)]; exact hS.2.2.1, pw_same, by rw [pw_oth (fun _ z => by omega)]; exact hS.2.2.2.2⟩
theorem RXS.setE (hS : RXS h (F, L, B, D, e) w r) {v : Nat} {x : Int32} (hx : x = nI v) : RXS h (F, L, B, D, v) (pw_sI w r 4 x) r := by
  subst hx
  exact ⟨fun i hi => by rw [pw_oth (fun z _ => by omega)]; exact hS.1 i hi, fun i hi => by rw [pw_oth (fun z _ => by omega)]; exact hS.2.1 i hi, by rw [pw_oth (fun _ z => by omega)]; exact hS.2.2.1, by rw [pw_oth (fun _ z => by omega)]; exact hS.2.2.2.1, pw_same⟩
end SET
/-! states that can be stay so -/
theorem aWS.mq {h : aH} {s : aS} {a b : Nat} (hs : aWS h s) (ha : a < aNp h) (hb : b < aNp h) : aWS h (aMq h s a b) := by
  refine ⟨fun i hi => ⟨?_, ?_⟩, hs.2⟩
  · have ga := (hs.1 a ha).1
    have gb := (hs.1 b hb).1
    have gi := (hs.1 i hi).1
    show (if _ then _ else if _ then _ else _ : Nat → Nat) i ≤ 30
    split
    · exact za_ule (by omega) gi
    · split
      · exact za_ule (by omega) gi
      · exact gi
  · have gi := (hs.1 i hi).2
    exact za_ule (by omega) (za_ule (by omega) gi)
theorem aWS.ms {h : aH} {s : aS} (hh : aWH h) (hs : aWS h s) : ∀ k, k ≤ aNm h → aWS h (aMs h k s).1
  | 0, _ => hs
  | k + 1, hk => by
    have ih := aWS.ms hh hs k (by omega)
    unfold aMs
    split
    · exact ih.mq (hh.2.2.2.2.2.2.2.2.1 k (by omega)).1 (hh.2.2.2.2.2.2.2.2.1 k (by omega)).2.1
    · exact ih
theorem aWS.cl {h : aH} {s : aS} (hs : aWS h s) (b p : Nat) : aWS h (aCl h s b p) := by
  refine ⟨fun i hi => ⟨(hs.1 i hi).1, ?_⟩, hs.2⟩
  have gi := (hs.1 i hi).2
  show za_u (sL s) p (sL s p - aCo h b) i ≤ 99
  unfold za_u
  split
  · rename_i e; subst e; omega
  · exact gi
theorem aWS.bs {h : aH} {s : aS} {ro : Nat → Nat} (hs : aWS h s) : ∀ k, aWS h (aBs h ro k s)
  | 0 => hs
  | k + 1 => (aWS.bs hs k).cl _ _
theorem aBs_D {h : aH} {ro : Nat → Nat} {s : aS} : ∀ k, sD (aBs h ro k s) = sD s
  | 0 => rfl
  | k + 1 => aBs_D k
theorem aMs_D {h : aH} {s : aS} : ∀ k, sD (aMs h k s).1 = sD s
  | 0 => rfl
  | k + 1 => by
    unfold aMs
    split
    · exact aMs_D k
    · exact aMs_D k
theorem aMs_met {h : aH} {s : aS} : ∀ k, (aMs h k s).2 < 2 ^ k
  | 0 => Nat.zero_lt_one
  | k + 1 => by
    have ih := aMs_met (h := h) (s := s) k
    have e : 2 ^ (k + 1) = 2 ^ k * 2 := Nat.pow_succ 2 k
    unfold aMs
    split
    · exact Nat.or_lt_two_pow (by omega) (by omega)
    · omega
theorem aWS.fs {h : aH} {s : aS} (hs : aWS h s) : ∀ k, k ≤ aNp h → aWS h (aFs h k s)
  | 0, _ => hs
  | k + 1, hk => by
    have ih := aWS.fs hs k (by omega)
    unfold aFs
    split
    · exact ih
    · refine ⟨fun i hi => ⟨(ih.1 i hi).1, ?_⟩, ih.2.1, ih.2.2.1, Nat.mod_lt _ (by decide)⟩
      have gi := (ih.1 i hi).2
      show (if _ then _ else _ : Nat → Nat) i ≤ 99
      split
      · exact za_ule (by omega) gi
      · exact gi
theorem aFs_D {h : aH} {s : aS} : ∀ k, sD (aFs h k s) = sD s
  | 0 => rfl
  | k + 1 => by
    unfold aFs
    split
    · exact aFs_D k
    · exact aFs_D k
theorem aDay_D {h : aH} {ro : Nat → Nat} {fl : Bool} {s : aS} : sD (aDay h ro fl s) = sD s + 1 := by
  cases fl
  · show sD (aBs h ro (aNb h) (aMs h (aNm h) s).1) + 1 = _
    rw [aBs_D, aMs_D]
  · show sD (aFs h (aNp h) (aBs h ro (aNb h) (aMs h (aNm h) s).1)) + 1 = _
    rw [aFs_D, aBs_D, aMs_D]
theorem aWS.day {h : aH} {s : aS} {ro : Nat → Nat} {fl : Bool} (hh : aWH h) (hs : aWS h s) (hd : sD s < 4999) : aWS h (aDay h ro fl s) := by
  have h1 := ((aWS.ms hh hs (aNm h) (Nat.le_refl _)).bs (ro := ro) (aNb h))
  have h2 := h1.fs (aNp h) (Nat.le_refl _)
  have hD := aDay_D (h := h) (ro := ro) (fl := fl) (s := s)
  cases fl
  · exact ⟨h1.1, h1.2.1, by rw [hD]; omega, h1.2.2.2⟩
  · exact ⟨h2.1, h2.2.1, by rw [hD]; omega, h2.2.2.2⟩
/-! the methods -/
section XD
variable {E : px_E} {d : Nat} {w : pw_W} {Q : Option Value → pw_W → Prop} {t : ct_T} {h : aH} {s : aS} {r0 r1 : Nat}
theorem pXfb (hS : RXS h s w r1) (hs : aWS h s) {i : Nat} (hi : i < 9) : pX8_isForbidden w r1 (nI i) ↔ (sB s).testBit i = true := by
  show js_shr (pw_I w r1 2) (nI i) &&& 1 = 1 ↔ _
  rw [hS.2.2.1]
  exact za_tb1 (by have := hs.2.1; omega) (by omega)
theorem pXab (hH : RXH h w r0) (hS : RXS h s w r1) (hh : aWH h) (hs : aWS h s) {i : Nat} (hi : i < aNp h) (x : Int32) : pX2_liesAbed w r0 r1 x i ↔ aBd h ≤ sL s i := by
  show ¬ (pw_I w (r1 + 1) i < pw_I w r0 12) ↔ _
  rw [hS.1 i hi, hH.1.2.2.2.1, nI_ltI (by have := (hs.1 i hi).2; omega) (by have := hh.2.2.2.1; omega)]
  omega
theorem tX2_takesPlace (hw : w.1 = cs t) (hr0 : is_Hamlet r0) (hr1 : is_State r1) (hH : RXH h w r0) (hS : RXS h s w r1) (hh : aWH h) (hs : aWS h s) {i : Nat} (hi : i < aNm h) (k : Q (some (.int (jb (aTp h s i)))) w) : px_Call E (d + 2) 0 0 mX2_takesPlace [.ref r0, .ref r1, .int (nI i)] w Q := by
  have h9 : i < 9 := by have := hh.2.1; omega
  obtain ⟨m1, m2, -, m4⟩ := hh.2.2.2.2.2.2.2.2.1 i hi
  obtain ⟨f1, f2, f3⟩ := hH.2.2.1 i hi
  have np := hh.1
  have no : ¬ aTp h s i → px_W E mX2_takesPlace (d + 2) 0 0 56 [.null, .null, .null] [] w Q := fun z => bX2_takesPlace_56 hw hr0 hr1 (bX2_takesPlace_57 hw hr0 hr1 (Or.inl rfl) (by rw [jb_f z] at k; exact k))
  have ed : js_rem (pw_I w r1 3) 7 = nI (sD s % 7) := by rw [hS.2.2.2.1]; exact za_rem (d := 7) (by have := hs.2.2.1; omega) (by decide) (by decide)
  have eq : (js_rem (pw_I w r1 3) 7 = pw_I w (r0 + 6) i) ↔ sD s % 7 = aWk h i := by rw [ed, f3]; exact nI_eq (by omega) (by omega)
  refine eX2_takesPlace hw hr0 hr1 i rfl h9 (fun q => no (fun z => q (eq.mpr z.1))) (fun _ q => no (fun z => ?_)) (fun q1 q2 => ?_)
  · have := (pXfb hS hs h9).mp q; rw [z.2.1] at this; cases this
  · refine bX2_takesPlace_24 hw hr0 hr1 i rfl h9 (aFi h i) f1 (by omega) (fun q => no (fun z => ?_)) (fun q3 => ?_)
    · have := (pXab hH hS hh hs m1 _).mp q; omega
    · refine bX2_takesPlace_38 hw hr0 hr1 i rfl h9 (aSe h i) f2 (by omega) (fun q => no (fun z => ?_)) (fun q4 => ?_)
      · have := (pXab hH hS hh hs m2 _).mp q; omega
      · refine bX2_takesPlace_57 hw hr0 hr1 (Or.inr rfl) ?_
        have : aTp h s i := ⟨eq.mp q1, by cases hq : (sB s).testBit i with
          | false => rfl
          | true => exact absurd ((pXfb hS hs h9).mpr hq) q2, Nat.not_le.mp (fun z => q3 ((pXab hH hS hh hs m1 _).mpr z)), Nat.not_le.mp (fun z => q4 ((pXab hH hS hh hs m2 _).mpr z))⟩
        rw [jb_t this] at k
        exact k
theorem tX2_coolOne (hw : w.1 = cs t) (hr0 : is_Hamlet r0) (hr1 : is_State r1) (hH : RXH h w r0) (hS : RXS h s w r1) (hh : aWH h) (hs : aWS h s) {b p : Nat} (hb : b < aNb h) (hp : p < aNp h) (k : ∀ w', ag [r1 + 1] w w' → RXS h (aCl h s b p) w' r1 → Q none w') : px_Call E (d + 1) 0 0 mX2_coolOne [.ref r0, .ref r1, .int (nI b), .int (nI p)] w Q := by
  have np := hh.1
  have nb := hh.2.2.1
  refine eX2_coolOne hw hr0 hr1 p rfl (by omega) b rfl (by omega) (k _ (ag.sI (by simp)) (hS.setL ?_))
  rw [hS.1 p hp, (hH.2.2.2.1 b hb).1]
  exact za_max0 (by have := (hs.1 p hp).2; omega) (by have := (hh.2.2.2.2.2.2.2.2.2.1 b hb).1.2; omega)
theorem tX2_meet (hw : w.1 = cs t) (hr0 : is_Hamlet r0) (hr1 : is_State r1) (hH : RXH h w r0) (hS : RXS h s w r1) (hh : aWH h) (hs : aWS h s) {a b : Nat} (ha : a < aNp h) (hb : b < aNp h) (hab : a ≠ b) (k : ∀ w', ag [r1, r1 + 1, r1 + 2, r0 + 12] w w' → RXS h (aMq h s a b) w' r1 → Q none w') : px_Call E (d + 3) 0 0 mX2_meet [.ref r0, .ref r1, .int (nI a), .int (nI b)] w Q := by
  have np := hh.1
  obtain ⟨x1, x2, x3⟩ := xd_S hr0 hr1
  have hf := hr0.is10
  obtain ⟨-, -, -, -, -, p1, -, p2⟩ := id hH
  have q13 := hh.2.2.2.2.2.2.2.2.2.2.2.2
  refine eX2_meet hw hr0 hr1 a rfl (by omega) b rfl (by omega) ?_
  rw [hS.1 a ha, hS.2.1 a ha, hS.2.1 b hb, hS.2.2.2.1]
  refine tX1_lumpsLeft hw hf p1 q13.2 p2 q13.1 _ _ _ _ (fun w1 a1 => ?_)
  have hw1 := a1.1.trans hw
  have S1 := hS.ag a1 x1 x2 x3
  have H1 := hH.ag a1 (fun k hk => xd_12 hk)
  refine bX2_meet_37 hw1 hr0 hr1 b rfl (by omega) ?_
  rw [S1.1 b hb, S1.2.2.2.1]
  refine tX1_lumpsLeft hw1 hf H1.2.2.2.2.2.1 q13.2 H1.2.2.2.2.2.2.2 q13.1 _ _ _ _ (fun w2 a2 => ?_)
  have hw2 := a2.1.trans hw1
  have S2 := S1.ag a2 x1 x2 x3
  have H2 := H1.ag a2 (fun k hk => xd_12 hk)
  have g1 := hs.1 a ha
  have g2 := hs.1 b hb
  have l1 := fEv_le (aPr h) (sF s a) (sF s b) (sL s a) (sD s)
  have l2 := fEv_le (aPr h) (sF s b) (sF s a) (sL s b) (sD s)
  have e1 : js_min 99 (pw_I w2 (r1 + 1) a + nI (fClamp ((fRun (nI (sF s a)) (nI (sF s b)) (nI (sL s a)) (nI (sD s)) (aPr h) []).getD 0 0))) = nI (min 99 (sL s a + aEv h (sF s a) (sF s b) (sL s a) (sD s))) := by
    rw [S2.1 a ha, nI_add]; exact za_min (a := 99) (by decide) (by unfold fEv at l1; omega)
  have e2 : js_min 99 (pw_I (pw_sI w2 (r1 + 1) a (js_min 99 (pw_I w2 (r1 + 1) a + nI (fClamp ((fRun (nI (sF s a)) (nI (sF s b)) (nI (sL s a)) (nI (sD s)) (aPr h) []).getD 0 0))))) (r1 + 1) b + nI (fClamp ((fRun (nI (sF s b)) (nI (sF s a)) (nI (sL s b)) (nI (sD s)) (aPr h) []).getD 0 0))) = nI (min 99 (sL s b + aEv h (sF s b) (sF s a) (sL s b) (sD s))) := by
    rw [pw_oth (fun _ z => hab z.symm), S2.1 b hb, nI_add]; exact za_min (a := 99) (by decide) (by unfold fEv at l2; omega)
  have S3 := (S2.setL (p := a) e1).setL (p := b) e2
  have A3 : ag [r1, r1 + 1, r1 + 2, r0 + 12] w (pw_sI (pw_sI w2 (r1 + 1) a (js_min 99 (pw_I w2 (r1 + 1) a + nI (fClamp ((fRun (nI (sF s a)) (nI (sF s b)) (nI (sL s a)) (nI (sD s)) (aPr h) []).getD 0 0))))) (r1 + 1) b (js_min 99 (pw_I (pw_sI w2 (r1 + 1) a (js_min 99 (pw_I w2 (r1 + 1) a + nI (fClamp ((fRun (nI (sF s a)) (nI (sF s b)) (nI (sL s a)) (nI (sD s)) (aPr h) []).getD 0 0))))) (r1 + 1) b + nI (fClamp ((fRun (nI (sF s b)) (nI (sF s a)) (nI (sL s b)) (nI (sD s)) (aPr h) []).getD 0 0))))) := ((a1.mono (by simp)).tr (a2.mono (by simp))).tr ((ag.sI (by simp)).tr (ag.sI (by simp)))
  refine bX2_meet_60 hw2 hr0 hr1 a rfl (by omega) b rfl (by omega) ?_
  generalize pw_sI (pw_sI w2 (r1 + 1) a _) (r1 + 1) b _ = w3 at S3 A3 ⊢
  refine bX2_meet_102 (A3.1.trans hw) hr0 hr1 (fun q1 q2 => ?_) (fun q1 q2 => ?_) (fun q1 => ?_)
  · have z1 := za_le (by omega) (by omega) q1
    have z2 := za_le (by omega) (by omega) q2
    refine bX2_meet_159 (A3.1.trans hw) hr0 hr1 (k _ A3 ?_)
    unfold aMq
    rw [if_neg (by omega), if_neg (by omega)]
    exact S3
  · have z1 := za_le (by omega) (by omega) q1
    have z2 := za_nle (by omega) (by omega) q2
    have hw3 := A3.1.trans hw
    have H3 := hH.ag A3 (fun k hk => xd_H hr0 hr1 hk)
    have e3 : js_min (nI (sF s a)) (nI (sF s b) + pw_I w3 (r0 + 2) b) = nI (min (sF s a) (sF s b + aLe h b)) := by
      rw [(H3.2.1 b hb).2.1, nI_add]; exact za_min (by omega) (by have := (hh.2.2.2.2.2.2.2.1 b hb).2.1; omega)
    refine bX2_meet_139 hw3 hr0 hr1 b rfl (by omega) (bX2_meet_159 (hI hw3) hr0 hr1 (k _ (A3.tr (ag.sI (List.mem_cons_of_mem _ (List.mem_cons_of_mem _ List.mem_cons_self)))) ?_))
    unfold aMq
    rw [if_neg (by omega), if_pos (by omega)]
    exact S3.setF (p := b) e3
  · have z1 := za_nle (by omega) (by omega) q1
    have hw3 := A3.1.trans hw
    have H3 := hH.ag A3 (fun k hk => xd_H hr0 hr1 hk)
    have e3 : js_min (nI (sF s b)) (nI (sF s a) + pw_I w3 (r0 + 2) a) = nI (min (sF s b) (sF s a + aLe h a)) := by
      rw [(H3.2.1 a ha).2.1, nI_add]; exact za_min (by omega) (by have := (hh.2.2.2.2.2.2.2.1 a ha).2.1; omega)
    refine bX2_meet_109 hw3 hr0 hr1 a rfl (by omega) (bX2_meet_159 (hI hw3) hr0 hr1 (k _ (A3.tr (ag.sI (List.mem_cons_of_mem _ (List.mem_cons_of_mem _ List.mem_cons_self)))) ?_))
    unfold aMq
    rw [if_pos (by omega)]
    exact S3.setF (p := a) e3
end XD
