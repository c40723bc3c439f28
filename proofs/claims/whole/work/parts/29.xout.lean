/-! the class: what lies ahead, on the scratch state 42 -/
theorem st42 : is_State 42 := Or.inr (Or.inl rfl)
theorem st35 : is_State 35 := Or.inl rfl
theorem st57 : is_State 57 := Or.inr (Or.inr rfl)
section XO
variable {E : px_E} {d : Nat} {w : pw_W} {Q : Option Value → pw_W → Prop} {t : ct_T} {h : aH} {s : aS} {r0 r1 : Nat}
theorem va_cpy6 {f g : Nat → Int32} {j : Nat} (hj : j < 6) : va_cpy f g 0 0 6 j = f j := by
  unfold va_cpy
  rw [if_pos (by omega)]
  congr 1
  omega
theorem tX8_copyFrom (hw : w.1 = cs t) (hn : aNp h ≤ 6) (hS : RXS h s w 35) (k : ∀ w', ag [42, 43, 44] w w' → RXS h s w' 42 → Q none w') : px_Call E (d + 1) 0 0 mX8_copyFrom [.ref 42, .ref 35] w Q := by
  refine eX8_copyFrom hw st42 st35 ?_
  refine bX8_copyFrom_30 (hA (hA hw)) st42 st35 ?_
  refine bX8_copyFrom_46 (hI (hI (hA (hA hw)))) st42 st35 (k _ ?_ ?_)
  · exact ((ag.sA (by decide)).tr (ag.sA (by decide))).tr (((ag.sI (by decide)).tr (ag.sI (by decide))).tr (ag.sI (by decide)))
  · refine ⟨fun i hi => ?_, fun i hi => ?_, ?_, ?_, ?_⟩
    · simp only [pw_I_sI, pw_I_sA]
      simp
      rw [va_cpy6 (by omega)]
      exact hS.1 i hi
    · simp only [pw_I_sI, pw_I_sA]
      simp
      rw [va_cpy6 (by omega), pw_I_sA, if_neg (by decide)]
      exact hS.2.1 i hi
    · simp only [pw_I_sI, pw_I_sA]
      simp
      exact hS.2.2.1
    · simp only [pw_I_sI, pw_I_sA]
      simp
      exact hS.2.2.2.1
    · simp only [pw_I_sI, pw_I_sA]
      simp
      exact hS.2.2.2.2
theorem tX2_allLumps (hw : w.1 = cs t) (hr0 : is_Hamlet r0) (hr1 : is_State r1) (hH : RXH h w r0) (hS : RXS h s w r1) (hh : aWH h) (k : Q (some (.int (nI (aHurt h s)))) w) : px_Call E (d + 1) 0 0 mX2_allLumps [.ref r0, .ref r1] w Q := by
  have np := hh.1
  refine eX2_allLumps hw hr0 hr1 ?_
  have key : ∀ i, i ≤ aNp h → px_W E mX2_allLumps (d + 1) 0 0 4 [.ref r0, .ref r1, .int (nI (aSum (sL s) i)), .int (nI i)] [] w Q := by
    refine za_up (aNp h) _ (fun i hi ih => ?_)
    refine bX2_allLumps_4 hw hr0 hr1 (fun q => ?_) (fun q => ?_) <;> rw [hH.1.1] at q
    · have : i = aNp h := by have := za_le (by omega) (by omega) q; omega
      subst this
      exact k
    · have hlt : i < aNp h := za_nle (by omega) (by omega) q
      refine bX2_allLumps_12 hw hr0 hr1 i rfl (by omega) ?_
      rw [hS.1 i hlt, nI_add, nI_1]
      exact ih hlt
  exact key 0 (Nat.zero_le _)
theorem tX2_abedBits (hw : w.1 = cs t) (hr0 : is_Hamlet r0) (hr1 : is_State r1) (hH : RXH h w r0) (hS : RXS h s w r1) (hh : aWH h) (hs : aWS h s) (k : Q (some (.int (nI (aAb h s)))) w) : px_Call E (d + 2) 0 0 mX2_abedBits [.ref r0, .ref r1] w Q := by
  have np := hh.1
  refine eX2_abedBits hw hr0 hr1 ?_
  have key : ∀ i, i ≤ aNp h → px_W E mX2_abedBits (d + 2) 0 0 4 [.ref r0, .ref r1, .int (nI (aAbk h s i)), .int (nI i)] [] w Q := by
    refine za_up (aNp h) _ (fun i hi ih => ?_)
    refine bX2_abedBits_4 hw hr0 hr1 (fun q => ?_) (fun q => ?_) <;> rw [hH.1.1] at q
    · have : i = aNp h := by have := za_le (by omega) (by omega) q; omega
      subst this
      exact k
    · have hlt : i < aNp h := za_nle (by omega) (by omega) q
      have ih := ih hlt
      rw [← nI_1] at ih
      unfold aAbk at ih
      refine bX2_abedBits_12 hw hr0 hr1 i rfl (by omega) (fun z => ?_) (fun z => ?_) <;> rw [pXab hH hS hh hs hlt] at z <;> refine bX2_abedBits_27 hw hr0 hr1 ?_
      · rw [if_neg z] at ih
        exact ih
      · rw [if_pos z] at ih
        rw [za_bit1 (by omega), za_or]
        exact ih
  exact key 0 (Nat.zero_le _)
/-- n days more on the scratch state -/
theorem tX4_goOn {ra : Nat} {ro : Nat → Nat} {n : Nat} (hw : w.1 = cs t) (hr0 : is_Hamlet r0) (hra : (cs t).2.1 ra = (100, 12)) (hra2 : ra ∉ [42, 43, 44, r0 + 12]) (hH : RXH h w r0) (hS : RXS h s w 42) (hR : RXR h ro w ra) (hh : aWH h) (hs : aWS h s) (hro : aWR h ro) (hn : sD s + n < 5000) (k : ∀ w', ag [42, 43, 44, r0 + 12] w w' → RXS h (aDays h ro false n s) w' 42 → Q (some (.int (nI (aHurt h (aDays h ro false n s))))) w') :
    px_Call E (d + 5) 0 0 mX4_goOn [.ref 41, .ref r0, .ref ra, .int (nI n)] w Q := by
  refine eX4_goOn hw hr0 ?_
  have key : ∀ i, i ≤ n → ∀ w1, ag [42, 43, 44, r0 + 12] w w1 → RXS h (aDays h ro false i s) w1 42 → px_W E mX4_goOn (d + 5) 0 0 3 [.ref 41, .ref r0, .ref ra, .int (nI n), .int (nI i)] [] w1 Q := by
    refine za_up n _ (fun i hi ih => ?_)
    intro w1 a1 S1
    have hw1 := a1.1.trans hw
    have H1 := hH.ag a1 (fun k hk => xd_H hr0 st42 hk)
    obtain ⟨W1, D1⟩ := aWS.days (ro := ro) (fl := false) hh hs i (by omega)
    refine bX4_goOn_3 hw1 hr0 (fun q => ?_) (fun q => ?_)
    · have : i = n := by have := za_le (by omega) (by omega) q; omega
      subst this
      refine tX2_allLumps hw1 hr0 st42 H1 S1 hh (bX4_goOn_34 (r2 := ra) hw1 hr0 (k w1 a1 S1))
    · have hlt : i < n := za_nle (by omega) (by omega) q
      refine tX2_passDay (fl := false) hw1 hr0 st42 hra hra2 H1 S1 (fun b hb k hk => (a1.I hra2 _).trans (hR b hb k hk)) hh W1 hro (fun w2 a2 S2 => ?_)
      refine bX4_goOn_19 (a2.1.trans hw1) hr0 ?_
      rw [nI_1]
      exact ih hlt w2 (a1.tr a2) S2
  exact key 0 (Nat.zero_le _) w ag.rf hS
theorem xr9 (hr0 : is_Hamlet r0) : r0 + 9 ∉ [42, 43, 44, r0 + 12] := by rcases hr0 with rfl | rfl <;> simp
theorem RXH.ro (hH : RXH h w r0) : RXR h (aRo h) w (r0 + 9) := hH.2.2.2.2.1
theorem aWH.ro (hh : aWH h) : aWR h (aRo h) := hh.2.2.2.2.2.2.2.2.2.2.1
theorem tX4_goOnTillAbed {m n : Nat} (hw : w.1 = cs t) (hr0 : is_Hamlet r0) (hH : RXH h w r0) (hS : RXS h s w 42) (hh : aWH h) (hs : aWS h s) (hn : sD s + n < 5000) (k : ∀ w', ag [42, 43, 44, r0 + 12] w w' → Q (some (.int (aTill h (aRo h) m n 0 s))) w') :
    px_Call E (d + 5) 0 0 mX4_goOnTillAbed [.ref 41, .ref r0, .int (nI m), .int (nI n)] w Q := by
  refine eX4_goOnTillAbed hw hr0 ?_
  have key : ∀ i, i ≤ n → ∀ w1, ag [42, 43, 44, r0 + 12] w w1 → RXS h (aDays h (aRo h) false i s) w1 42 → (∀ w', ag [42, 43, 44, r0 + 12] w w' → Q (some (.int (aTill h (aRo h) m (n - i) i (aDays h (aRo h) false i s)))) w') → px_W E mX4_goOnTillAbed (d + 5) 0 0 3 [.ref 41, .ref r0, .int (nI m), .int (nI n), .int (nI i)] [] w1 Q := by
    refine za_up n _ (fun i hi ih => ?_)
    intro w1 a1 S1 kk
    have hw1 := a1.1.trans hw
    have H1 := hH.ag a1 (fun k hk => xd_H hr0 st42 hk)
    obtain ⟨W1, D1⟩ := aWS.days (ro := aRo h) (fl := false) hh hs i (by omega)
    refine bX4_goOnTillAbed_3 hw1 hr0 (fun q => ?_) (fun q => ?_)
    · have := za_lt (by omega) (by omega) q; omega
    · refine tX2_abedBits hw1 hr0 st42 H1 S1 hh W1 ?_
      have hz : nI (aAb h (aDays h (aRo h) false i s)) &&& nI m = 0 ↔ aAb h (aDays h (aRo h) false i s) &&& m = 0 := by
        rw [za_and]
        exact nI_eq (b := 0) (Nat.lt_of_le_of_lt Nat.and_le_left (by have := aAb_lt hh (aDays h (aRo h) false i s); omega)) (by omega)
      refine bX4_goOnTillAbed_17 hw1 hr0 (fun z1 z2 => ?_) (fun z1 z2 => ?_) (fun z1 => ?_)
      · have z1 := hz.mp z1
        have : i = n := by have := za_le (by omega) (by omega) z2; omega
        subst this
        refine bX4_goOnTillAbed_45 hw1 hr0 (bX4_goOnTillAbed_3 hw1 hr0 (fun _ => ?_) (fun q => absurd ?_ q))
        · have := kk w1 a1
          rw [Nat.sub_self] at this
          unfold aTill at this
          rw [if_pos z1] at this
          exact this
        · rw [nI_1]; exact (nI_ltI (by omega) (by omega)).mpr (by omega)
      · have z1 := hz.mp z1
        have hlt : i < n := za_nle (by omega) (by omega) z2
        refine tX2_passDay (fl := false) hw1 hr0 st42 hr0.sh9 (xr9 hr0) H1 S1 H1.ro hh W1 hh.ro (fun w2 a2 S2 => ?_)
        refine bX4_goOnTillAbed_44 (a2.1.trans hw1) hr0 (bX4_goOnTillAbed_45 (a2.1.trans hw1) hr0 ?_)
        rw [nI_1]
        refine ih hlt w2 (a1.tr a2) S2 (fun w' a' => ?_)
        have := kk w' a'
        rw [show n - i = (n - (i + 1)) + 1 by omega] at this
        unfold aTill at this
        rw [if_pos z1] at this
        exact this
      · have z1 : ¬ aAb h (aDays h (aRo h) false i s) &&& m = 0 := fun y => z1 (hz.mpr y)
        have := kk w1 a1
        cases hni : n - i with
        | zero => rw [hni] at this; unfold aTill at this; rw [if_neg z1] at this; exact this
        | succ j => rw [hni] at this; unfold aTill at this; rw [if_neg z1] at this; exact this
  exact key 0 (Nat.zero_le _) w ag.rf hS (fun w' a' => k w' a')
end XO
