/-! the class: what lies ahead, the rest -/
/-- of those that are weighed the best, as the class keeps it -/
def RCh (o : Option (Nat × Nat)) (w : pw_W) : Prop := match o with
  | none => pw_I w 41 2 = -1
  | some q => pw_I w 41 2 = nI q.1 ∧ pw_I w 41 3 = nI q.2
def aMok (h : aH) (p : Nat) : Nat → Nat
  | 0 => 0
  | k + 1 => if aFi h k = p ∨ aSe h k = p then aMok h p k ||| 2 ^ k else aMok h p k
def fPup (h : aH) (s : aS) (n p : Nat) : Option Nat := if sF s p < 30 then some (aHurt h (aDays h (aRo h) false n (sSetF s p (sF s p + 1)))) else none
def fSco (h : aH) (s : aS) (p : Nat) : Option Nat := some (aHurt h (aDays h (aRo h) false 7 (sSetB s (sB s ||| aMok h p (aNm h)))))
def fRel (h : aH) (s : aS) (b p : Nat) : Option Nat := some (aHurt h (aDays h (aRo h) false 7 (aCl h s b p)))
theorem aMok_lt (h : aH) (p : Nat) : ∀ k, aMok h p k < 2 ^ k
  | 0 => Nat.zero_lt_one
  | k + 1 => by
    have ih := aMok_lt h p k
    have e : 2 ^ (k + 1) = 2 ^ k * 2 := Nat.pow_succ 2 k
    unfold aMok
    split
    · exact Nat.or_lt_two_pow (by omega) (by omega)
    · omega
theorem aMok_512 {h : aH} (hh : aWH h) (p : Nat) {k : Nat} (hk : k ≤ aNm h) : aMok h p k < 512 := Nat.lt_of_lt_of_le (aMok_lt h p k) (Nat.pow_le_pow_right (n := 2) (j := 9) (by decide) (Nat.le_trans hk hh.2.1))
section XO
variable {E : px_E} {d : Nat} {w : pw_W} {Q : Option Value → pw_W → Prop} {t : ct_T} {h : aH} {s : aS} {r0 r1 : Nat}
theorem xd_O {k : Nat} (h0 : is_Hamlet r0) (hk : k ≤ 11) : r0 + k ∉ [42, 43, 44, r0 + 12] := xd_H h0 st42 hk
theorem xd_C {k : Nat} (h0 : is_Hamlet r0) (hk : k ≤ 11) : r0 + k ∉ [41, 42, 43, 44, r0 + 12] := by
  rcases h0 with rfl | rfl <;> simp <;> omega
theorem xd_35 (h0 : is_Hamlet r0) : 35 ∉ [42, 43, 44, r0 + 12] ∧ 35 + 1 ∉ [42, 43, 44, r0 + 12] ∧ 35 + 2 ∉ [42, 43, 44, r0 + 12] := by
  rcases h0 with rfl | rfl <;> simp
theorem xd_C35 (h0 : is_Hamlet r0) : 35 ∉ [41, 42, 43, 44, r0 + 12] ∧ 35 + 1 ∉ [41, 42, 43, 44, r0 + 12] ∧ 35 + 2 ∉ [41, 42, 43, 44, r0 + 12] := by
  rcases h0 with rfl | rfl <;> simp
theorem tX4_lumpsBehind {p n : Nat} {fl : Bool} (hw : w.1 = cs t) (hr0 : is_Hamlet r0) (hH : RXH h w r0) (hS : RXS h s w 35) (hh : aWH h) (hs : aWS h s) (hp : p < aNp h) (hn : sD s + n < 5000) (k : ∀ w', ag [42, 43, 44, r0 + 12] w w' → Q (some (.int (nI (sL (aDays h (aRo h) fl n s) p)))) w') :
    px_Call E (d + 5) 0 0 mX4_lumpsBehind [.ref 41, .ref r0, .ref 35, .int (nI p), .int (nI n), .int (jb (fl = true))] w Q := by
  have np := hh.1
  refine eX4_lumpsBehind hw hr0 (tX8_copyFrom hw np hS (fun w1 a1 S1 => ?_))
  refine bX4_lumpsBehind_8 (r2 := 35) (a1.1.trans hw) hr0 ?_
  have key : ∀ i, i ≤ n → ∀ w1, ag [42, 43, 44, r0 + 12] w w1 → RXS h (aDays h (aRo h) fl i s) w1 42 → px_W E mX4_lumpsBehind (d + 5) 0 0 11 [.ref 41, .ref r0, .null, .int (nI p), .int (nI n), .int (jb (fl = true)), .int (nI i)] [] w1 Q := by
    refine za_up n _ (fun i hi ih => ?_)
    intro w1 a1 S1
    have hw1 := a1.1.trans hw
    have H1 := hH.ag a1 (fun k hk => xd_O hr0 hk)
    obtain ⟨W1, D1⟩ := aWS.days (ro := aRo h) (fl := fl) hh hs i (by omega)
    refine bX4_lumpsBehind_11 (r2 := 35) hw1 hr0 (fun q => ?_) (fun q => ?_)
    · have : i = n := by have := za_le (by omega) (by omega) q; omega
      subst this
      refine bX4_lumpsBehind_39 (r1 := r0) (r2 := 35) hw1 hr0 p rfl (by omega) ?_
      rw [S1.1 p hp]
      exact k w1 a1
    · have hlt : i < n := za_nle (by omega) (by omega) q
      refine tX2_passDay (fl := fl) hw1 hr0 st42 hr0.sh9 (xr9 hr0) H1 S1 H1.ro hh W1 hh.ro (fun w2 a2 S2 => ?_)
      refine bX4_lumpsBehind_32 (r2 := 35) (a2.1.trans hw1) hr0 ?_
      rw [nI_1]
      exact ih hlt w2 (a1.tr a2) S2
  exact key 0 (Nat.zero_le _) w1 (a1.mono (by simp)) S1
theorem tX4_firmBehind {p n : Nat} (hw : w.1 = cs t) (hr0 : is_Hamlet r0) (hH : RXH h w r0) (hS : RXS h s w 35) (hh : aWH h) (hs : aWS h s) (hp : p < aNp h) (hn : sD s + n < 5000) (k : ∀ w', ag [42, 43, 44, r0 + 12] w w' → Q (some (.int (nI (sF (aDays h (aRo h) false n s) p)))) w') :
    px_Call E (d + 6) 0 0 mX4_firmBehind [.ref 41, .ref r0, .ref 35, .int (nI p), .int (nI n)] w Q := by
  have np := hh.1
  refine eX4_firmBehind hw hr0 (tX8_copyFrom hw np hS (fun w1 a1 S1 => ?_))
  have hw1 := a1.1.trans hw
  have a1 : ag [42, 43, 44, r0 + 12] w w1 := a1.mono (by simp)
  have H1 := hH.ag a1 (fun k hk => xd_O hr0 hk)
  refine bX4_firmBehind_8 (r2 := 35) hw1 hr0 (tX4_goOn hw1 hr0 hr0.sh9 (xr9 hr0) H1 S1 H1.ro hh hs hh.ro hn (fun w2 a2 S2 => ?_))
  refine bX4_firmBehind_19 (r1 := r0) (r2 := 35) (a2.1.trans hw1) hr0 p rfl (by omega) ?_
  rw [S2.2.1 p hp]
  exact k w2 (a1.tr a2)
theorem tX4_hurtBehind {n : Nat} (hw : w.1 = cs t) (hr0 : is_Hamlet r0) (hH : RXH h w r0) (hS : RXS h s w 35) (hh : aWH h) (hs : aWS h s) (hn : sD s + n < 5000) (k : ∀ w', ag [42, 43, 44, r0 + 12] w w' → Q (some (.int (nI (aHurt h (aDays h (aRo h) false n s))))) w') :
    px_Call E (d + 6) 0 0 mX4_hurtBehind [.ref 41, .ref r0, .ref 35, .int (nI n)] w Q := by
  have np := hh.1
  refine eX4_hurtBehind hw hr0 (tX8_copyFrom hw np hS (fun w1 a1 S1 => ?_))
  have hw1 := a1.1.trans hw
  have a1 : ag [42, 43, 44, r0 + 12] w w1 := a1.mono (by simp)
  have H1 := hH.ag a1 (fun k hk => xd_O hr0 hk)
  refine bX4_hurtBehind_8 (r2 := 35) hw1 hr0 (tX4_goOn hw1 hr0 hr0.sh9 (xr9 hr0) H1 S1 H1.ro hh hs hh.ro hn (fun w2 a2 S2 => ?_))
  exact bX4_hurtBehind_18 (r1 := r0) (r2 := 35) (a2.1.trans hw1) hr0 (k w2 (a1.tr a2))
theorem tX4_daysTillAbed {p n : Nat} (hw : w.1 = cs t) (hr0 : is_Hamlet r0) (hH : RXH h w r0) (hS : RXS h s w 35) (hh : aWH h) (hs : aWS h s) (hp : p < aNp h) (hn : sD s + n < 5000) (k : ∀ w', ag [42, 43, 44, r0 + 12] w w' → Q (some (.int (aTill h (aRo h) (2 ^ p) n 0 s))) w') :
    px_Call E (d + 6) 0 0 mX4_daysTillAbed [.ref 41, .ref r0, .ref 35, .int (nI p), .int (nI n)] w Q := by
  have np := hh.1
  refine eX4_daysTillAbed hw (tX8_copyFrom hw np hS (fun w1 a1 S1 => ?_))
  have hw1 := a1.1.trans hw
  have a1 : ag [42, 43, 44, r0 + 12] w w1 := a1.mono (by simp)
  have H1 := hH.ag a1 (fun k hk => xd_O hr0 hk)
  refine bX4_daysTillAbed_8 (r2 := 35) hw1 ?_
  rw [za_bit1 (by omega)]
  refine tX4_goOnTillAbed hw1 hr0 H1 S1 hh hs hn (fun w2 a2 => ?_)
  exact bX4_daysTillAbed_18 (r1 := r0) (r2 := 35) (a2.1.trans hw1) (k w2 (a1.tr a2))
theorem tX4_leastGrip {p n : Nat} (hw : w.1 = cs t) (hr0 : is_Hamlet r0) (hH : RXH h w r0) (hS : RXS h s w 35) (hh : aWH h) (hs : aWS h s) (hp : p < aNp h) (hn : sD s + n < 5000) (k : ∀ w', ag [42, 43, 44, r0 + 12] w w' → Q (some (.int (aGr h (aRo h) p n s 31 0))) w') :
    px_Call E (d + 6) 0 0 mX4_leastGrip [.ref 41, .ref r0, .ref 35, .int (nI p), .int (nI n)] w Q := by
  have np := hh.1
  refine eX4_leastGrip hw ?_
  have key : ∀ i, i ≤ 31 → ∀ w1, ag [42, 43, 44, r0 + 12] w w1 → (∀ w', ag [42, 43, 44, r0 + 12] w w' → Q (some (.int (aGr h (aRo h) p n s (31 - i) i))) w') → px_W E mX4_leastGrip (d + 6) 0 0 3 [.ref 41, .ref r0, .ref 35, .int (nI p), .int (nI n), .int (nI i)] [] w1 Q := by
    refine za_up 31 _ (fun i hi ih => ?_)
    intro w1 a1 kk
    have hw1 := a1.1.trans hw
    obtain ⟨y1, y2, y3⟩ := xd_35 hr0
    have S1 := hS.ag a1 y1 y2 y3
    refine bX4_leastGrip_3 hw1 (fun q => ?_) (fun q => ?_)
    · have : i = 31 := by have := za_lt (a := 30) (by omega) (by omega) q; omega
      subst this
      exact kk w1 a1
    · have hlt : i ≤ 30 := za_nlt (a := 30) (by omega) (by omega) q
      refine tX8_copyFrom hw1 np S1 (fun w2 a2 S2 => ?_)
      have hw2 := a2.1.trans hw1
      have A2 : ag [42, 43, 44, r0 + 12] w w2 := a1.tr (a2.mono (by simp))
      refine bX4_leastGrip_18 hw2 p rfl (by omega) ?_
      rw [za_bit1 (by omega)]
      have A3 : ag [42, 43, 44, r0 + 12] w (pw_sI w2 44 p (nI i)) := A2.tr (ag.sI (by simp))
      refine tX4_goOnTillAbed (s := sSetF s p i) (hI hw2) hr0 (hH.ag A3 (fun k hk => xd_O hr0 hk)) (S2.setF (p := p) rfl) hh (hs.setF hlt) hn (fun w3 a3 => ?_)
      refine bX4_leastGrip_39 (a3.1.trans (hI hw2)) (fun z => ?_) (fun z => ?_)
      · rw [nI_1]
        refine ih (by omega) w3 (A3.tr a3) (fun w' a' => ?_)
        have := kk w' a'
        rw [show 31 - i = (31 - (i + 1)) + 1 by omega] at this
        unfold aGr at this
        rw [if_neg z] at this
        exact this
      · have := kk w3 (A3.tr a3)
        rw [show 31 - i = (31 - (i + 1)) + 1 by omega] at this
        unfold aGr at this
        rw [if_pos z] at this
        exact this
  exact key 0 (by omega) w ag.rf (fun w' a' => k w' a')
theorem tJ7_fill {r n : Nat} {v : Int32} (hw : w.1 = cs t) (hr : (cs t).2.1 r = (100, n)) (hn : n < 2 ^ 31) (k : ∀ w', ag [r] w w' → (∀ i, i < n → pw_I w' r i = v) → Q none w') : px_Call E (d + 1) 0 0 mJ7_fill_53178 [.ref r, .int v] w Q := by
  refine eJ7_fill_53178 hw hr hn ?_
  have key : ∀ i, i ≤ n → ∀ w1, ag [r] w w1 → (∀ j, j < i → pw_I w1 r j = v) → px_W E mJ7_fill_53178 (d + 1) 0 0 5 [.ref r, .int v, .int (nI i), .int (nI n)] [] w1 Q := by
    refine za_up n _ (fun i hi ih => ?_)
    intro w1 a1 f1
    have hw1 := a1.1.trans hw
    refine bJ7_fill_53178_5 hw1 hr hn (fun q => ?_) (fun q => ?_)
    · have : i = n := by have := za_le (by omega) (by omega) q; omega
      subst this
      exact k w1 a1 f1
    · have hlt : i < n := za_nle (by omega) (by omega) q
      refine bJ7_fill_53178_10 hw1 hr hn i rfl hlt ?_
      rw [nI_1]
      refine ih hlt _ (a1.tr (ag.sI List.mem_cons_self)) (fun j hj => ?_)
      by_cases e : j = i
      · subst e; exact pw_same
      · rw [pw_oth (fun _ z => e z)]; exact f1 j (by omega)
  exact key 0 (Nat.zero_le _) w ag.rf (fun j hj => absurd hj (Nat.not_lt_zero _))
theorem sh44 : (cs t).2.1 44 = (100, 6) := st42.sh2
theorem tX4_hurtIfAllAre {v n : Nat} (hw : w.1 = cs t) (hr0 : is_Hamlet r0) (hH : RXH h w r0) (hS : RXS h s w 35) (hh : aWH h) (hs : aWS h s) (hv : v ≤ 30) (hn : sD s + n < 5000) (k : ∀ w', ag [42, 43, 44, r0 + 12] w w' → Q (some (.int (nI (aHurt h (aDays h (aRo h) false n (sAllF s v)))))) w') :
    px_Call E (d + 6) 0 0 mX4_hurtIfAllAre [.ref 41, .ref r0, .ref 35, .int (nI v), .int (nI n)] w Q := by
  have np := hh.1
  refine eX4_hurtIfAllAre hw hr0 (tX8_copyFrom hw np hS (fun w1 a1 S1 => ?_))
  have hw1 := a1.1.trans hw
  refine bX4_hurtIfAllAre_8 (r2 := 35) hw1 hr0 (tJ7_fill hw1 sh44 (by decide) (fun w2 a2 f2 => ?_))
  have hw2 := a2.1.trans hw1
  have A2 : ag [42, 43, 44, r0 + 12] w w2 := (a1.mono (by simp)).tr (a2.mono (by simp))
  have H2 := hH.ag A2 (fun k hk => xd_O hr0 hk)
  have S2 : RXS h (sAllF s v) w2 42 := ⟨fun i hi => (a2.I (by decide) i).trans (S1.1 i hi), fun i hi => f2 i (by omega), (a2.I (by decide) _).trans S1.2.2.1, (a2.I (by decide) _).trans S1.2.2.2.1, (a2.I (by decide) _).trans S1.2.2.2.2⟩
  refine bX4_hurtIfAllAre_19 (r2 := 35) hw2 hr0 (tX4_goOn hw2 hr0 hr0.sh9 (xr9 hr0) H2 S2 H2.ro hh (hs.allF hv) hh.ro hn (fun w3 a3 S3 => ?_))
  exact bX4_hurtIfAllAre_30 (r1 := r0) (r2 := 35) (a3.1.trans hw2) hr0 (k w3 (A2.tr a3))
theorem tX4_daysTillMeeting {m n : Nat} (hw : w.1 = cs t) (hr0 : is_Hamlet r0) (hH : RXH h w r0) (hS : RXS h s w 35) (hh : aWH h) (hs : aWS h s) (hm : m < aNm h) (hn : sD s + n < 5000) (k : ∀ w', ag [42, 43, 44, r0 + 12] w w' → Q (some (.int (aNx h (aRo h) m n 1 s))) w') :
    px_Call E (d + 5) 0 0 mX4_daysTillMeeting [.ref 41, .ref r0, .ref 35, .int (nI m), .int (nI n)] w Q := by
  have np := hh.1
  have nm := hh.2.1
  refine eX4_daysTillMeeting hw hr0 (tX8_copyFrom hw np hS (fun w1 a1 S1 => ?_))
  refine bX4_daysTillMeeting_8 (r2 := 35) (a1.1.trans hw) hr0 ?_
  have key : ∀ i, i ≤ n → ∀ w1, ag [42, 43, 44, r0 + 12] w w1 → RXS h (aDays h (aRo h) false i s) w1 42 → (∀ w', ag [42, 43, 44, r0 + 12] w w' → Q (some (.int (aNx h (aRo h) m (n - i) (i + 1) (aDays h (aRo h) false i s)))) w') → px_W E mX4_daysTillMeeting (d + 5) 0 0 11 [.ref 41, .ref r0, .null, .int (nI m), .int (nI n), .int (nI (i + 1)), .null] [] w1 Q := by
    refine za_up n _ (fun i hi ih => ?_)
    intro w1 a1 S1 kk
    have hw1 := a1.1.trans hw
    have H1 := hH.ag a1 (fun k hk => xd_O hr0 hk)
    obtain ⟨W1, D1⟩ := aWS.days (ro := aRo h) (fl := false) hh hs i (by omega)
    refine bX4_daysTillMeeting_11 (r2 := 35) hw1 hr0 (fun q => ?_) (fun q => ?_)
    · have : i = n := by have := za_lt (by omega) (by omega) q; omega
      subst this
      have := kk w1 a1
      rw [Nat.sub_self] at this
      exact this
    · have hlt : i < n := by have := za_nlt (by omega) (by omega) q; omega
      refine tX2_passDay (fl := false) hw1 hr0 st42 hr0.sh9 (xr9 hr0) H1 S1 H1.ro hh W1 hh.ro (fun w2 a2 S2 => ?_)
      have mt := aMs_met (h := h) (s := aDays h (aRo h) false i s) (aNm h)
      have m2 : 2 ^ aNm h ≤ 512 := Nat.pow_le_pow_right (n := 2) (j := 9) (by decide) nm
      have e : js_shr (nI (aMet h (aDays h (aRo h) false i s))) (nI m) &&& 1 = 1 ↔ _ := za_tb1 (by unfold aMet; omega) (by omega)
      refine bX4_daysTillMeeting_31 (r2 := 35) (a2.1.trans hw1) hr0 (fun z => ?_) (fun z => ?_)
      · rw [nI_1]
        refine ih hlt w2 (a1.tr a2) S2 (fun w' a' => ?_)
        have := kk w' a'
        rw [show n - i = (n - (i + 1)) + 1 by omega] at this
        unfold aNx at this
        rw [if_neg (fun y => z (e.mpr y))] at this
        exact this
      · have := kk w2 (a1.tr a2)
        rw [show n - i = (n - (i + 1)) + 1 by omega] at this
        unfold aNx at this
        rw [if_pos (e.mp z)] at this
        exact this
  exact key 0 (Nat.zero_le _) w1 (a1.mono (by simp)) S1 (fun w' a' => k w' a')
end XO
