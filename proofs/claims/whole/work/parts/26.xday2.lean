/-! the class: flares, the whole day, sums, copies -/
theorem xd_Hk {r0 r1 k : Nat} (h0 : is_Hamlet r0) (h1 : is_State r1) (hk : k ≤ 12) : r0 + k ∉ [r1, r1 + 1, r1 + 2] := by
  rcases h0 with rfl | rfl <;> rcases h1 with rfl | rfl | rfl <;> simp <;> omega
theorem xd_H0 {r0 r1 : Nat} (h0 : is_Hamlet r0) (h1 : is_State r1) : r0 ≠ r1 := by
  rcases h0 with rfl | rfl <;> rcases h1 with rfl | rfl | rfl <;> decide
section XD
variable {E : px_E} {d : Nat} {w : pw_W} {Q : Option Value → pw_W → Prop} {t : ct_T} {h : aH} {s : aS} {r0 r1 : Nat}
theorem tX2_flare (hw : w.1 = cs t) (hr0 : is_Hamlet r0) (hr1 : is_State r1) (hH : RXH h w r0) (hS : RXS h s w r1) (hh : aWH h) (hs : aWS h s) (k : ∀ w', ag [r1, r1 + 1, r1 + 2] w w' → RXS h (aFs h (aNp h) s) w' r1 → Q none w') : px_Call E (d + 1) 0 0 mX2_flare [.ref r0, .ref r1] w Q := by
  have np := hh.1
  refine eX2_flare hw hr0 hr1 ?_
  have key : ∀ i, i ≤ aNp h → ∀ w1, ag [r1, r1 + 1, r1 + 2] w w1 → RXS h (aFs h i s) w1 r1 → px_W E mX2_flare (d + 1) 0 0 2 [.ref r0, .ref r1, .int (nI i)] [] w1 Q := by
    refine za_up (aNp h) _ (fun i hi ih => ?_)
    intro w1 a1 S1
    have hw1 := a1.1.trans hw
    have H1 := hH.ag a1 (fun k hk => xd_Hk hr0 hr1 (by omega))
    refine bX2_flare_2 hw1 hr0 hr1 (fun q => ?_) (fun q => ?_) <;> rw [H1.1.1] at q
    · have : i = aNp h := by have := za_le (by omega) (by omega) q; omega
      subst this
      exact k w1 a1 S1
    · have hlt : i < aNp h := za_nle (by omega) (by omega) q
      have W1 := hs.fs i hi
      have g := W1.1 i hlt
      have gE := W1.2.2.2
      have fin : ∀ w2, ag [r1, r1 + 1, r1 + 2] w1 w2 → RXS h (aFs h (i + 1) s) w2 r1 → px_W E mX2_flare (d + 1) 0 0 71 [.ref r0, .ref r1, .int (nI i)] [] w2 Q := by
        intro w2 a2 S2
        refine bX2_flare_71 (a2.1.trans hw1) hr0 hr1 ?_
        rw [nI_1]
        exact ih hlt w2 (a1.tr a2) S2
      refine bX2_flare_10 hw1 hr0 hr1 i rfl (by omega) (fun z => ?_) (fun z => ?_) <;> rw [S1.1 i hlt] at z
      · have z0 := za_le (b := 0) (by omega) (by omega) z
        refine fin w1 ag.rf ?_
        unfold aFs
        rw [if_pos (by omega)]
        exact S1
      · have z0 := za_nle (b := 0) (by omega) (by omega) z
        have e1 : js_rem (pw_I w1 r1 4 * 137 + 71) 1000 = nI ((sE (aFs h i s) * 137 + 71) % 1000) := by
          rw [S1.2.2.2.2]
          exact (congrArg (fun x => js_rem x 1000) (show nI (sE (aFs h i s)) * nI 137 + nI 71 = nI (sE (aFs h i s) * 137 + 71) by rw [pk_mul, nI_add])).trans (za_rem (d := 1000) (by omega) (by decide) (by decide))
        have S2 := S1.setE e1
        have a2 : ag [r1, r1 + 1, r1 + 2] w1 (pw_sI w1 r1 4 (js_rem (pw_I w1 r1 4 * 137 + 71) 1000)) := ag.sI (by simp)
        have e2 : pw_I (pw_sI w1 r1 4 (js_rem (pw_I w1 r1 4 * 137 + 71) 1000)) r0 13 = nI (aFl h) := by rw [pw_oth (fun z _ => xd_H0 hr0 hr1 z)]; exact H1.1.2.2.2.2.1
        have e3 : js_rem (pw_I (pw_sI w1 r1 4 (js_rem (pw_I w1 r1 4 * 137 + 71) 1000)) r1 4) 100 = nI ((sE (aFs h i s) * 137 + 71) % 1000 % 100) := by
          rw [pw_same, e1]; exact za_rem (d := 100) (by omega) (by decide) (by decide)
        have hfl := hh.2.2.2.2.1
        refine bX2_flare_19 hw1 hr0 hr1 (fun q2 => ?_) (fun q2 => ?_) <;> rw [e2, e3] at q2 <;> generalize pw_sI w1 r1 4 (js_rem (pw_I w1 r1 4 * 137 + 71) 1000) = w2 at S2 a2 ⊢
        · have z1 := za_le (by omega) (by omega) q2
          refine fin w2 a2 ?_
          unfold aFs
          rw [if_neg (by omega), if_neg (by omega)]
          exact S2
        · have z1 := za_nle (by omega) (by omega) q2
          refine bX2_flare_52 (a2.1.trans hw1) hr0 hr1 i rfl (by omega) (fin _ (a2.tr (ag.sI (by simp))) ?_)
          unfold aFs
          rw [if_neg (by omega), if_pos (by omega)]
          refine S2.setL (p := i) ?_
          have e4 : pw_I w2 (r1 + 1) i = nI (sL (aFs h i s) i) := S2.1 i hlt
          rw [e4]
          exact (congrArg (js_min 99) (nI_1 _)).trans (za_min (a := 99) (by decide) (by omega))
  exact key 0 (Nat.zero_le _) w ag.rf hS
/-- where rounds are told -/
def RXR (h : aH) (ro : Nat → Nat) (w : pw_W) (ra : Nat) : Prop := ∀ b, b < aNb h → ∀ k, k < aRs h b → pw_I w ra (6 * b + k) = nI (ro (6 * b + k))
theorem tX2_passDay {ra : Nat} {ro : Nat → Nat} {fl : Bool} (hw : w.1 = cs t) (hr0 : is_Hamlet r0) (hr1 : is_State r1) (hra : (cs t).2.1 ra = (100, 12)) (hra2 : ra ∉ [r1, r1 + 1, r1 + 2, r0 + 12]) (hH : RXH h w r0) (hS : RXS h s w r1) (hR : RXR h ro w ra) (hh : aWH h) (hs : aWS h s) (hro : aWR h ro) (k : ∀ w', ag [r1, r1 + 1, r1 + 2, r0 + 12] w w' → RXS h (aDay h ro fl s) w' r1 → Q (some (.int (nI (aMet h s)))) w') :
    px_Call E (d + 4) 0 0 mX2_passDay [.ref r0, .ref r1, .ref ra, .int (jb (fl = true))] w Q := by
  have np := hh.1
  have nm := hh.2.1
  have nb := hh.2.2.1
  have hn : (12 : Nat) < 2 ^ 31 := by decide
  refine eX2_passDay hw hr0 hr1 hra hn ?_
  have key : ∀ i, i ≤ aNm h → ∀ w1, ag [r1, r1 + 1, r1 + 2, r0 + 12] w w1 → RXS h (aMs h i s).1 w1 r1 → px_W E mX2_passDay (d + 4) 0 0 6 [.ref r0, .ref r1, .ref ra, .int (jb (fl = true)), .int (nI (aMs h i s).2), .int (nI i), .null] [] w1 Q := by
    refine za_up (aNm h) _ (fun i hi ih => ?_)
    intro w1 a1 S1
    have hw1 := a1.1.trans hw
    have H1 := hH.ag a1 (fun k hk => xd_H hr0 hr1 hk)
    have W1 := aWS.ms hh hs i hi
    refine bX2_passDay_6 hw1 hr0 hr1 hra hn (fun q => ?_) (fun q => ?_) <;> rw [H1.1.2.1] at q
    · have : i = aNm h := by have := za_le (by omega) (by omega) q; omega
      subst this
      have key2 : ∀ b, b ≤ aNb h → ∀ w1, ag [r1, r1 + 1, r1 + 2, r0 + 12] w w1 → RXS h (aBs h ro b (aMs h (aNm h) s).1) w1 r1 → px_W E mX2_passDay (d + 4) 0 0 62 [.ref r0, .ref r1, .ref ra, .int (jb (fl = true)), .int (nI (aMs h (aNm h) s).2), .int (nI b), .null] [] w1 Q := by
        refine za_up (aNb h) _ (fun b hb ih2 => ?_)
        intro w1 a1 S1
        have hw1 := a1.1.trans hw
        have H1 := hH.ag a1 (fun k hk => xd_H hr0 hr1 hk)
        have W2 := W1.bs (ro := ro) b
        have fin : ∀ w2 q, ag [r1, r1 + 1, r1 + 2, r0 + 12] w w2 → RXS h q w2 r1 → sD q = sD s → (sF q, sL q, sB q, sD q + 1, sE q) = aDay h ro fl s → px_W E mX2_passDay (d + 4) 0 0 127 [.null, .ref r1, .null, .null, .int (nI (aMs h (aNm h) s).2), .null, .null] [] w2 Q := by
          intro w2 q a2 S2 e1 e2
          refine bX2_passDay_127 (a2.1.trans hw) hr0 hr1 hra hn (k _ (a2.tr (ag.sI List.mem_cons_self)) ?_)
          rw [← e2]
          refine S2.setD ?_
          rw [S2.2.2.2.1]
          exact nI_1 _
        refine bX2_passDay_62 hw1 hr0 hr1 hra hn (fun q z => ?_) (fun q z => ?_) (fun q => ?_) <;> rw [H1.1.2.2.1] at q
        · have : b = aNb h := by have := za_le (by omega) (by omega) q; omega
          subst this
          have ef : fl = false := by cases fl with
            | false => rfl
            | true => exact absurd z (by decide)
          subst ef
          exact fin w1 _ a1 S1 (by rw [aBs_D, aMs_D]) rfl
        · have : b = aNb h := by have := za_le (by omega) (by omega) q; omega
          subst this
          have ef : fl = true := by cases fl with
            | false => exact absurd rfl z
            | true => rfl
          subst ef
          refine tX2_flare hw1 hr0 hr1 H1 S1 hh W2 (fun w2 a2 S2 => ?_)
          exact fin w2 _ (a1.tr (a2.mono (by intro a; simp; omega))) S2 (by rw [aFs_D, aBs_D, aMs_D]) rfl
        · have hlt : b < aNb h := za_nle (by omega) (by omega) q
          obtain ⟨c1, c2⟩ := H1.2.2.2.1 b hlt
          obtain ⟨c3, c4, c5⟩ := hh.2.2.2.2.2.2.2.2.2.1 b hlt
          refine bX2_passDay_71 hw1 hr0 hr1 hra hn b rfl (by omega) (fun z => ?_) (fun z => ?_) <;> rw [c2] at z
          · have := za_le (b := 0) (by omega) (by omega) z; omega
          · have em : sD (aBs h ro b (aMs h (aNm h) s).1) % aRs h b < aRs h b := Nat.mod_lt _ (by omega)
            have e1 : nI b * 6 + js_rem (pw_I w1 r1 3) (pw_I w1 (r0 + 8) b) = nI (6 * b + sD (aBs h ro b (aMs h (aNm h) s).1) % aRs h b) := by
              rw [S1.2.2.2.1, c2, za_rem (by have := W2.2.2.1; omega) (by omega) (by omega)]
              exact (show nI b * nI 6 + _ = _ by rw [pk_mul, nI_add, Nat.mul_comm])
            have hp := hro b hlt _ em
            refine bX2_passDay_81 hw1 hr0 hr1 hra hn b rfl (by omega) (by rw [c2]; exact nI_ne0 (by omega) (by omega)) _ e1 (by omega) ?_
            rw [a1.I hra2, hR b hlt _ em]
            refine tX2_coolOne hw1 hr0 hr1 H1 S1 hh W2 hlt hp (fun w2 a2 S2 => ?_)
            refine bX2_passDay_112 (a2.1.trans hw1) hr0 hr1 hra hn ?_
            rw [nI_1]
            refine ih2 hlt w2 (a1.tr (a2.mono (by simp))) ?_
            rw [aBs_D] at S2
            exact S2
      exact key2 0 (Nat.zero_le _) w1 a1 S1
    · have hlt : i < aNm h := za_nle (by omega) (by omega) q
      obtain ⟨m1, m2, m3, -⟩ := hh.2.2.2.2.2.2.2.2.1 i hlt
      obtain ⟨f1, f2, -⟩ := H1.2.2.1 i hlt
      refine tX2_takesPlace hw1 hr0 hr1 H1 S1 hh W1 hlt ?_
      have nxt : ∀ w2, ag [r1, r1 + 1, r1 + 2, r0 + 12] w1 w2 → RXS h (aMs h (i + 1) s).1 w2 r1 → px_W E mX2_passDay (d + 4) 0 0 53 [.ref r0, .ref r1, .ref ra, .int (jb (fl = true)), .int (nI (aMs h (i + 1) s).2), .int (nI i), .null] [] w2 Q := by
        intro w2 a2 S2
        refine bX2_passDay_53 (a2.1.trans hw1) hr0 hr1 hra hn ?_
        rw [nI_1]
        exact ih hlt w2 (a1.tr a2) S2
      refine bX2_passDay_22 hw1 hr0 hr1 hra hn (fun z => ?_) (fun z => ?_)
      · have z := jb_eq0.mp z
        have e : aMs h (i + 1) s = aMs h i s := by conv => lhs; unfold aMs; rw [if_neg z]
        rw [← e]
        exact nxt w1 ag.rf (by rw [e]; exact S1)
      · have z : aTp h (aMs h i s).1 i := Classical.not_not.mp (fun y => z (jb_eq0.mpr y))
        have e : aMs h (i + 1) s = (aMt h (aMs h i s).1 i, (aMs h i s).2 ||| 2 ^ i) := by conv => lhs; unfold aMs; rw [if_pos z]
        refine bX2_passDay_25 hw1 hr0 hr1 hra hn i rfl (by omega) ?_
        rw [f1, f2]
        refine tX2_meet hw1 hr0 hr1 H1 S1 hh W1 m1 m2 m3 (fun w2 a2 S2 => ?_)
        refine bX2_passDay_44 (a2.1.trans hw1) hr0 hr1 hra hn ?_
        rw [za_bit1 (by omega), za_or]
        have e2 : (aMs h i s).2 ||| 2 ^ i = (aMs h (i + 1) s).2 := by rw [e]
        rw [e2]
        exact nxt w2 a2 (by rw [e]; exact S2)
  exact key 0 (Nat.zero_le _) w ag.rf hS
end XD
