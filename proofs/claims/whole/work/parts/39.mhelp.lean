/-! the reference: rows copied, who is abed, what lies ahead -/
theorem RMS.cp {h : aH} {s : aS} {w w' : pw_W} {a b : Nat} (hn : aNp h ≤ 6) (hS : RMS h s w a) (e : ∀ j, j < 15 → pw_I w' b j = pw_I w a j) : RMS h s w' b :=
  ⟨fun i hi => (e _ (by omega)).trans (hS.1 i hi), fun i hi => (e _ (by omega)).trans (hS.2.1 i hi), (e _ (by omega)).trans hS.2.2.1, (e _ (by omega)).trans hS.2.2.2.1, (e _ (by omega)).trans hS.2.2.2.2⟩
theorem aAbk_bit (h : aH) (s : aS) (p : Nat) : ∀ k, (aAbk h s k).testBit p = (decide (p < k) && decide (aBd h ≤ sL s p))
  | 0 => by simp [aAbk]
  | k + 1 => by
    have ih := aAbk_bit h s p k
    show (if aBd h ≤ sL s k then aAbk h s k ||| 2 ^ k else aAbk h s k).testBit p = _
    by_cases e : aBd h ≤ sL s k
    · rw [if_pos e, Nat.testBit_or, ih, Nat.testBit_two_pow]
      by_cases z : k = p
      · subst z; simp [e]
      · by_cases y : p < k
        · simp [y, z, show p < k + 1 by omega]
        · simp [y, z, show ¬ p < k + 1 by omega]
    · rw [if_neg e, ih]
      by_cases z : k = p
      · subst z; simp [e]
      · by_cases y : p < k
        · simp [y, show p < k + 1 by omega]
        · simp [y, show ¬ p < k + 1 by omega]
theorem and_bit0 (n p : Nat) : n &&& 2 ^ p = 0 ↔ n.testBit p = false := by
  constructor
  · intro e
    have : (n &&& 2 ^ p).testBit p = false := by rw [e]; exact Nat.zero_testBit p
    rw [Nat.testBit_and, Nat.testBit_two_pow] at this
    simpa using this
  · intro e
    apply Nat.eq_of_testBit_eq
    intro i
    rw [Nat.testBit_and, Nat.testBit_two_pow, Nat.zero_testBit]
    by_cases z : p = i
    · subst z; simp [e]
    · simp [z]
theorem aAb_one {h : aH} {s : aS} {p : Nat} (hp : p < aNp h) : aAb h s &&& 2 ^ p = 0 ↔ ¬ aBd h ≤ sL s p := by
  rw [and_bit0]
  unfold aAb
  rw [aAbk_bit]
  simp [hp]
/-- the first greatest -/
def aGtK (f : Nat → Nat) : Nat → Option Nat
  | 0 => none
  | k + 1 => match aGtK f k with
    | none => some k
    | some b => if f b < f k then some k else some b
def aOp (o : Option Nat) : Int32 := match o with
  | none => -1
  | some b => nI b
theorem aGtK_0 {f : Nat → Nat} {k : Nat} (h : aGtK f k = none) : aGtK f (k + 1) = some k := by
  show (match aGtK f k with | none => some k | some b => if f b < f k then some k else some b) = _
  rw [h]
theorem aGtK_1 {f : Nat → Nat} {k b : Nat} (h : aGtK f k = some b) : aGtK f (k + 1) = if f b < f k then some k else some b := by
  show (match aGtK f k with | none => some k | some b => if f b < f k then some k else some b) = _
  rw [h]
theorem aGtK_lt {f : Nat → Nat} : ∀ {k b : Nat}, aGtK f k = some b → b < k
  | 0, b, e => by cases e
  | k + 1, b, e => by
    cases hk : aGtK f k with
    | none => rw [aGtK_0 hk] at e; cases e; omega
    | some c =>
      have := aGtK_lt hk
      rw [aGtK_1 hk] at e
      split at e <;> cases e <;> omega
section MD
variable {E : px_E} {d : Nat} {w : pw_W} {Q : Option Value → pw_W → Prop} {t : ct_T} {h : aH} {s : aS}
theorem tX10_fill (hw : w.1 = cs t) (k : ∀ w', ag [90] w w' → (∀ j, j < 15 → pw_I w' 90 j = pw_I w 89 j) → Q none w') : px_Call E (d + 1) 0 0 mX10_fill [.ref 61] w Q := by
  refine eX10_fill hw ?_
  have key : ∀ i, i ≤ 15 → ∀ w1, ag [90] w w1 → (∀ j, j < i → pw_I w1 90 j = pw_I w 89 j) → px_W E mX10_fill (d + 1) 0 0 2 [.ref 61, .int (nI i)] [] w1 Q := by
    refine za_up 15 _ (fun i hi ih => ?_)
    intro w1 a1 f1
    have hw1 := a1.1.trans hw
    refine bX10_fill_2 hw1 (fun q => ?_) (fun q => ?_)
    · have : i = 15 := by have := za_le (a := 15) (by omega) (by omega) q; omega
      subst this
      exact k w1 a1 f1
    · have hlt : i < 15 := za_nle (a := 15) (by omega) (by omega) q
      refine bX10_fill_8 hw1 i rfl hlt ?_
      rw [nI_1]
      refine ih hlt _ (a1.tr (ag.sI (by decide))) (fun j hj => ?_)
      by_cases e : j = i
      · subst e; rw [pw_same]; exact a1.I (by decide) _
      · rw [pw_oth (fun _ z => e z)]; exact f1 j (by omega)
  exact key 0 (by omega) w ag.rf (fun j hj => absurd hj (Nat.not_lt_zero _))
theorem tX10_keepAir (hw : w.1 = cs t) (k : ∀ w', ag [89] w w' → (∀ j, j < 15 → pw_I w' 89 j = pw_I w 90 j) → Q none w') : px_Call E (d + 1) 0 0 mX10_keepAir [.ref 61] w Q := by
  refine eX10_keepAir hw ?_
  have key : ∀ i, i ≤ 15 → ∀ w1, ag [89] w w1 → (∀ j, j < i → pw_I w1 89 j = pw_I w 90 j) → px_W E mX10_keepAir (d + 1) 0 0 2 [.ref 61, .int (nI i)] [] w1 Q := by
    refine za_up 15 _ (fun i hi ih => ?_)
    intro w1 a1 f1
    have hw1 := a1.1.trans hw
    refine bX10_keepAir_2 hw1 (fun q => ?_) (fun q => ?_)
    · have : i = 15 := by have := za_le (a := 15) (by omega) (by omega) q; omega
      subst this
      exact k w1 a1 f1
    · have hlt : i < 15 := za_nle (a := 15) (by omega) (by omega) q
      refine bX10_keepAir_8 hw1 i rfl hlt ?_
      rw [nI_1]
      refine ih hlt _ (a1.tr (ag.sI (by decide))) (fun j hj => ?_)
      by_cases e : j = i
      · subst e; rw [pw_same]; exact a1.I (by decide) _
      · rw [pw_oth (fun _ z => e z)]; exact f1 j (by omega)
  exact key 0 (by omega) w ag.rf (fun j hj => absurd hj (Nat.not_lt_zero _))
/-- the state at hand, taken into the air -/
theorem tX10_fillS (hw : w.1 = cs t) (hn : aNp h ≤ 6) (hS : RMS h s w 89) (k : ∀ w', ag [90] w w' → RMS h s w' 90 → Q none w') : px_Call E (d + 1) 0 0 mX10_fill [.ref 61] w Q :=
  tX10_fill hw (fun w' a' e => k w' a' (hS.cp hn e))
theorem tX10_layTold (hw : w.1 = cs t) (hH : RMH h w) (hh : aWH h) (k : ∀ w', ag [90] w w' → RMS h (aTold h) w' 90 → Q none w') : px_Call E (d + 1) 0 0 mX10_layTold [.ref 61] w Q := by
  have np := hh.1
  refine eX10_layTold hw ?_
  have key : ∀ i, i ≤ 15 → ∀ w1, ag [90] w w1 → (∀ j, j < i → pw_I w1 90 j = 0) → px_W E mX10_layTold (d + 1) 0 0 2 [.ref 61, .int (nI i)] [] w1 Q := by
    refine za_up 15 _ (fun i hi ih => ?_)
    intro w1 a1 f1
    have hw1 := a1.1.trans hw
    refine bX10_layTold_2 hw1 (fun q => ?_) (fun q => ?_)
    · have : i = 15 := by have := za_le (a := 15) (by omega) (by omega) q; omega
      subst this
      have key2 : ∀ p, p ≤ aNp h → ∀ w2, ag [90] w w2 → (∀ j, j < p → pw_I w2 90 (6 + j) = nI (aLu h j) ∧ pw_I w2 90 j = nI (aFm h j)) → pw_I w2 90 12 = 0 ∧ pw_I w2 90 13 = 0 → px_W E mX10_layTold (d + 1) 0 0 23 [.ref 61, .int (nI p)] [] w2 Q := by
        refine za_up _ _ (fun p hp ih2 => ?_)
        intro w2 a2 f2 z2
        have hw2 := a2.1.trans hw
        have H2 := hH.ag a2 (by decide)
        refine bX10_layTold_23 hw2 (fun q => ?_) (fun q => ?_) <;> rw [H2.1.1] at q
        · have : p = aNp h := by have := za_le (by omega) (by omega) q; omega
          subst this
          refine bX10_layTold_64 hw2 (k _ (a2.tr (ag.sI (by decide))) ⟨fun j hj => ?_, fun j hj => ?_, ?_, ?_, ?_⟩)
          · rw [pw_oth (fun _ z => by omega)]; exact (f2 j hj).1
          · rw [pw_oth (fun _ z => by omega)]; exact (f2 j hj).2
          · rw [pw_oth (fun _ z => by omega)]; exact z2.1
          · rw [pw_oth (fun _ z => by omega)]; exact z2.2
          · rw [pw_same]; exact H2.1.2.2.2.2.2.1
        · have hlt : p < aNp h := za_nle (by omega) (by omega) q
          refine bX10_layTold_31 hw2 p rfl (by omega) p rfl (by omega) (6 + p) (six p) (by omega) ?_
          rw [nI_1]
          refine ih2 hlt _ (a2.tr ((ag.sI (by decide)).tr (ag.sI (by decide)))) (fun j hj => ⟨?_, ?_⟩) ⟨?_, ?_⟩
          · by_cases e : j = p
            · subst e; rw [pw_same]; exact (H2.2.1 j hlt).2.2
            · rw [pw_oth (fun _ z => by omega), pw_oth (fun _ z => by omega)]; exact (f2 j (by omega)).1
          · by_cases e : j = p
            · subst e; rw [pw_oth (fun _ z => by omega), pw_same]; exact (H2.2.1 j hlt).1
            · rw [pw_oth (fun _ z => by omega), pw_oth (fun _ z => by omega)]; exact (f2 j (by omega)).2
          · rw [pw_oth (fun _ z => by omega), pw_oth (fun _ z => by omega)]; exact z2.1
          · rw [pw_oth (fun _ z => by omega), pw_oth (fun _ z => by omega)]; exact z2.2
      exact key2 0 (by omega) w1 a1 (fun j hj => absurd hj (Nat.not_lt_zero _)) ⟨f1 12 (by omega), f1 13 (by omega)⟩
    · have hlt : i < 15 := za_nle (a := 15) (by omega) (by omega) q
      refine bX10_layTold_8 hw1 i rfl hlt ?_
      rw [nI_1]
      refine ih hlt _ (a1.tr (ag.sI (by decide))) (fun j hj => ?_)
      by_cases e : j = i
      · subst e; exact pw_same
      · rw [pw_oth (fun _ z => e z)]; exact f1 j (by omega)
  exact key 0 (by omega) w ag.rf (fun j hj => absurd hj (Nat.not_lt_zero _))
theorem truth_jb {p : Prop} [Decidable p] : hX10_truth (jb p) = jb p := by
  unfold hX10_truth
  by_cases h : p
  · rw [jb_t h, if_neg (by decide)]
  · rw [jb_f h, if_pos rfl]
theorem shl_jb {p : Prop} [Decidable p] {k : Nat} (hk : k < 31) : js_shl (jb p) (nI k) = nI (if p then 2 ^ k else 0) := by
  by_cases h : p
  · rw [jb_t h, if_pos h]; exact za_bit1 hk
  · rw [jb_f h, if_neg h]
    have := za_shl (n := 0) (k := k) (by omega) (by rw [Nat.zero_mul]; decide)
    rw [Nat.zero_mul] at this
    exact this
theorem tX10_abedOnes (hw : w.1 = cs t) (hH : RMH h w) (hS : RMS h s w 90) (hh : aWH h) (hs : aWS h s) (k : Q (some (.int (nI (aAb h s)))) w) : px_Call E (d + 2) 0 0 mX10_abedOnes [.ref 61] w Q := by
  have np := hh.1
  refine eX10_abedOnes hw ?_
  have key : ∀ i, i ≤ aNp h → px_W E mX10_abedOnes (d + 2) 0 0 4 [.ref 61, .int (nI (aAbk h s i)), .int (nI i)] [] w Q := by
    refine za_up (aNp h) _ (fun i hi ih => ?_)
    refine bX10_abedOnes_4 hw (fun q => ?_) (fun q => ?_) <;> rw [hH.1.1] at q
    · have : i = aNp h := by have := za_le (by omega) (by omega) q; omega
      subst this
      exact k
    · have hlt : i < aNp h := za_nle (by omega) (by omega) q
      have ih := ih hlt
      rw [← nI_1] at ih
      unfold aAbk at ih
      refine bX10_abedOnes_12 hw (6 + i) (six i) (by omega) ?_
      have e := pMab hH hS hh hs hlt (nI i)
      rw [truth_jb, shl_jb (by omega), za_or]
      by_cases z : aBd h ≤ sL s i
      · rw [if_pos (e.mpr z)]
        rw [if_pos z] at ih
        exact ih
      · rw [if_neg (fun y => z (e.mp y)), Nat.or_zero]
        rw [if_neg z] at ih
        exact ih
  exact key 0 (Nat.zero_le _)
theorem tX10_hurtBehind {ro : Nat → Nat} {n : Nat} (hw : w.1 = cs t) (hH : RMH h w) (hS : RMS h s w 90) (hR : RMR h ro w) (hh : aWH h) (hs : aWS h s) (hro : aWR h ro) (hn : sD s + n < 5000) (k : ∀ w', ag [69, 70, 90] w w' → RMS h (aDays h ro false n s) w' 90 → Q (some (.int (nI (aHurt h (aDays h ro false n s))))) w') :
    px_Call E (d + 6) 0 0 mX10_hurtBehind [.ref 61, .int (nI n)] w Q := by
  have np := hh.1
  refine eX10_hurtBehind hw ?_
  have key : ∀ i, i ≤ n → ∀ w1, ag [69, 70, 90] w w1 → RMS h (aDays h ro false i s) w1 90 → px_W E mX10_hurtBehind (d + 6) 0 0 2 [.ref 61, .int (nI n), .int (nI i), .null] [] w1 Q := by
    refine za_up n _ (fun i hi ih => ?_)
    intro w1 a1 S1
    have hw1 := a1.1.trans hw
    have H1 := hH.ag a1 (by decide)
    obtain ⟨W1, D1⟩ := aWS.days (ro := ro) (fl := false) hh hs i (by omega)
    refine bX10_hurtBehind_2 hw1 (fun q => ?_) (fun q => ?_)
    · have : i = n := by have := za_le (by omega) (by omega) q; omega
      subst this
      have key2 : ∀ j, j ≤ aNp h → px_W E mX10_hurtBehind (d + 6) 0 0 23 [.ref 61, .null, .int (nI (aSum (sL (aDays h ro false i s)) j)), .int (nI j)] [] w1 Q := by
        refine za_up (aNp h) _ (fun j hj ih2 => ?_)
        refine bX10_hurtBehind_23 hw1 (fun q => ?_) (fun q => ?_) <;> rw [H1.1.1] at q
        · have : j = aNp h := by have := za_le (by omega) (by omega) q; omega
          subst this
          exact k w1 a1 S1
        · have hlt : j < aNp h := za_nle (by omega) (by omega) q
          refine bX10_hurtBehind_31 hw1 (6 + j) (six j) (by omega) ?_
          rw [S1.1 j hlt, nI_add, nI_1]
          exact ih2 hlt
      exact key2 0 (by omega)
    · have hlt : i < n := za_nle (by omega) (by omega) q
      refine tX10_goDay (fl := false) hw1 H1 S1 (hR.ag a1 (by decide)) hh W1 hro (fun w2 a2 S2 => ?_)
      refine bX10_hurtBehind_12 (a2.1.trans hw1) ?_
      rw [nI_1]
      exact ih hlt w2 (a1.tr a2) S2
  exact key 0 (Nat.zero_le _) w ag.rf hS
theorem tX10_isPeace {m n : Nat} (hw : w.1 = cs t) (hH : RMH h w) (hS : RMS h s w 90) (hR : RMR h (aRo h) w) (hh : aWH h) (hs : aWS h s) (hn : sD s + n + 1 < 5000) (k : ∀ w', ag [69, 70, 90] w w' → Q (some (.int (jb (aTill h (aRo h) m n 0 s = -1)))) w') :
    px_Call E (d + 6) 0 0 mX10_isPeace [.ref 61, .int (nI m), .int (nI n)] w Q := by
  have np := hh.1
  refine eX10_isPeace hw ?_
  have key : ∀ i, i ≤ n + 1 → ∀ w1, ag [69, 70, 90] w w1 → RMS h (aDays h (aRo h) false i s) w1 90 → (aTill h (aRo h) m n 0 s = if i = n + 1 then -1 else aTill h (aRo h) m (n - i) i (aDays h (aRo h) false i s)) → px_W E mX10_isPeace (d + 6) 0 0 5 [.ref 61, .int (nI m), .int (nI n), .int 1, .int (nI i)] [] w1 Q := by
    refine za_up (n + 1) _ (fun i hi ih => ?_)
    intro w1 a1 S1 e1
    have hw1 := a1.1.trans hw
    have H1 := hH.ag a1 (by decide)
    obtain ⟨W1, D1⟩ := aWS.days (ro := aRo h) (fl := false) hh hs i (by omega)
    refine bX10_isPeace_5 hw1 (fun q => ?_) (fun _ q => absurd q (by decide)) (fun q _ => ?_)
    · have : i = n + 1 := by have := za_lt (by omega) (by omega) q; omega
      rw [if_pos this] at e1
      refine bX10_isPeace_42 hw1 (Or.inr rfl) ?_
      have := k w1 a1
      rw [jb_t e1] at this
      exact this
    · have hlt : i ≤ n := za_nlt (by omega) (by omega) q
      rw [if_neg (by omega)] at e1
      refine tX10_abedOnes hw1 H1 S1 hh W1 ?_
      have hz : nI (aAb h (aDays h (aRo h) false i s)) &&& nI m = 0 ↔ aAb h (aDays h (aRo h) false i s) &&& m = 0 := by
        rw [za_and]
        exact nI_eq (b := 0) (Nat.lt_of_le_of_lt Nat.and_le_left (by have := aAb_lt hh (aDays h (aRo h) false i s); omega)) (by omega)
      refine bX10_isPeace_19 hw1 (fun z => ?_) (fun z => ?_) <;> rw [hz] at z <;> refine bX10_isPeace_29 hw1 (tX10_goDay (fl := false) hw1 H1 S1 (hR.ag a1 (by decide)) hh W1 hh.ro (fun w2 a2 S2 => ?_)) <;> have hw2 := a2.1.trans hw1 <;> refine bX10_isPeace_35 hw2 ?_ <;> rw [nI_1]
      · have en : ¬ aTill h (aRo h) m n 0 s = -1 := by
          rw [e1]
          have : aTill h (aRo h) m (n - i) i (aDays h (aRo h) false i s) = nI i := by
            cases hni : n - i with
            | zero => show (if _ then _ else _) = _; rw [if_neg z]
            | succ j => show (if _ then _ else _) = _; rw [if_neg z]
          rw [this]
          exact nI_m1 (by omega)
        have kk := k w2 (a1.tr a2)
        rw [jb_f en] at kk
        refine bX10_isPeace_5 hw2 (fun _ => bX10_isPeace_42 hw2 (Or.inl rfl) kk) (fun _ _ => bX10_isPeace_42 hw2 (Or.inl rfl) kk) (fun _ q => absurd rfl q)
      · refine ih (by omega) w2 (a1.tr a2) S2 ?_
        rw [e1]
        by_cases y : i = n
        · subst y
          rw [if_pos rfl, Nat.sub_self]
          show (if _ then _ else _) = _
          rw [if_pos z]
        · rw [if_neg (by omega), show n - i = (n - (i + 1)) + 1 by omega]
          show (if _ then _ else _) = _
          rw [if_pos z]
          rfl
  exact key 0 (Nat.zero_le _) w ag.rf hS (by rw [if_neg (by omega)]; rfl)
theorem pMbn (hS : RMS h s w 89) (hs : aWS h s) {i : Nat} (hi : i < 9) : pX10_isBannedNow w (nI i) ↔ (sB s).testBit i = true := by
  show js_shr (pw_I w 89 12) (nI i) &&& 1 = 1 ↔ _
  rw [hS.2.2.1]
  exact za_tb1 (by have := hs.2.1; omega) (by omega)
theorem shl_01 {k : Nat} (hk : k < 31) : js_shl (hX10_truth 0) (nI k) = nI 0 ∧ js_shl (hX10_truth 1) (nI k) = nI (2 ^ k) := by
  have h0 := shl_jb (p := False) hk
  have h1 := shl_jb (p := True) hk
  rw [if_neg (fun z => z)] at h0
  rw [if_pos trivial] at h1
  exact ⟨h0, h1⟩
theorem tX10_friendsOf {p : Nat} (hw : w.1 = cs t) (hH : RMH h w) (hS : RMS h s w 89) (hh : aWH h) (hs : aWS h s) (hp : p < 6) (k : Q (some (.int (nI (aFr h (sB s) p)))) w) : px_Call E (d + 2) 0 0 mX10_friendsOf [.ref 61, .int (nI p)] w Q := by
  have nm := hh.2.1
  have np := hh.1
  refine eX10_friendsOf hw ?_
  have key : ∀ i, i ≤ aNm h → px_W E mX10_friendsOf (d + 2) 0 0 4 [.ref 61, .int (nI p), .int (nI (aFrK h (sB s) p i)), .int (nI i)] [] w Q := by
    refine za_up (aNm h) _ (fun i hi ih => ?_)
    refine bX10_friendsOf_4 hw (fun q => ?_) (fun q z => ?_) (fun q z => ?_) <;> rw [hH.1.2.1] at q
    · have : i = aNm h := by have := za_le (by omega) (by omega) q; omega
      subst this
      exact k
    · have hlt : i < aNm h := za_nle (by omega) (by omega) q
      rw [pMbn hS hs (by omega)] at z
      obtain ⟨f1, f2, -⟩ := hH.2.2.1 i hlt
      obtain ⟨g1, g2, -⟩ := hh.2.2.2.2.2.2.2.2.1 i hlt
      have ih := ih hlt
      rw [aFrK_s, if_neg z] at ih
      have s39 : ∀ (y1 : Int32) (v : Nat), nI (aFrK h (sB s) p i) ||| js_shl (hX10_truth y1) (nI (aSe h i)) = nI v → (if aFi h i = p then aFrK h (sB s) p i ||| 2 ^ aSe h i else aFrK h (sB s) p i) = v → px_W E mX10_friendsOf (d + 2) 0 0 39 [.ref 61, .int (nI p), .null, .int (nI i)] [.int y1, .int (nI (aFrK h (sB s) p i))] w Q := by
        intro y1 v e1 e2
        rw [e2] at ih
        refine bX10_friendsOf_39 hw i rfl (by omega) (fun y => ?_) (fun y => ?_) <;> rw [f2] at y ⊢ <;> rw [e1] <;> refine bX10_friendsOf_67 hw i rfl (by omega) (bX10_friendsOf_79 hw ?_) <;> rw [f1, nI_1]
        · have y := za_ne (by omega) (by omega) y
          rw [if_neg y] at ih
          rw [(shl_01 (k := aFi h i) (by omega)).1, za_or, Nat.or_zero]
          exact ih
        · have y := za_eq (by omega) (by omega) y
          rw [if_pos y] at ih
          rw [(shl_01 (k := aFi h i) (by omega)).2, za_or]
          exact ih
      refine bX10_friendsOf_23 hw i rfl (by omega) (fun y => ?_) (fun y => ?_) <;> rw [f1] at y
      · have y := za_ne (by omega) (by omega) y
        exact s39 0 _ (by rw [(shl_01 (k := aSe h i) (by omega)).1, za_or, Nat.or_zero]) (if_neg y)
      · have y := za_eq (by omega) (by omega) y
        exact s39 1 _ (by rw [(shl_01 (k := aSe h i) (by omega)).2, za_or]) (if_pos y)
    · have hlt : i < aNm h := za_nle (by omega) (by omega) q
      rw [pMbn hS hs (by omega)] at z
      have ih := ih hlt
      rw [aFrK_s, if_pos z] at ih
      refine bX10_friendsOf_79 hw ?_
      rw [nI_1]
      exact ih
  exact key 0 (Nat.zero_le _)
theorem tX10_meetingsOf {p : Nat} (hw : w.1 = cs t) (hH : RMH h w) (hh : aWH h) (hp : p < 6) (k : Q (some (.int (nI (aMok h p (aNm h))))) w) : px_Call E (d + 2) 0 0 mX10_meetingsOf [.ref 61, .int (nI p)] w Q := by
  have nm := hh.2.1
  have np := hh.1
  refine eX10_meetingsOf hw ?_
  have key : ∀ i, i ≤ aNm h → px_W E mX10_meetingsOf (d + 2) 0 0 4 [.ref 61, .int (nI p), .int (nI (aMok h p i)), .int (nI i)] [] w Q := by
    refine za_up (aNm h) _ (fun i hi ih => ?_)
    refine bX10_meetingsOf_4 hw (fun q => ?_) (fun q => ?_) <;> rw [hH.1.2.1] at q
    · have : i = aNm h := by have := za_le (by omega) (by omega) q; omega
      subst this
      exact k
    · have hlt : i < aNm h := za_nle (by omega) (by omega) q
      obtain ⟨f1, f2, -⟩ := hH.2.2.1 i hlt
      obtain ⟨g1, g2, -⟩ := hh.2.2.2.2.2.2.2.2.1 i hlt
      have ih := ih hlt
      have es : aMok h p (i + 1) = if aFi h i = p ∨ aSe h i = p then aMok h p i ||| 2 ^ i else aMok h p i := rfl
      rw [es] at ih
      have yes : (aFi h i = p ∨ aSe h i = p) → px_W E mX10_meetingsOf (d + 2) 0 0 33 [.ref 61, .int (nI p), .null, .int (nI i)] [.int (nI (aMok h p i))] w Q := by
        intro z
        rw [if_pos z] at ih
        refine bX10_meetingsOf_33 hw (bX10_meetingsOf_38 hw ?_)
        rw [(shl_01 (k := i) (by omega)).2, za_or, nI_1]
        exact ih
      refine bX10_meetingsOf_12 hw i rfl (by omega) (fun y => ?_) (fun y => ?_) <;> rw [f1] at y
      · exact yes (Or.inl (za_eq (by omega) (by omega) y))
      · refine bX10_meetingsOf_23 hw i rfl (by omega) (fun z => ?_) (fun z => ?_) <;> rw [f2] at z
        · rw [if_neg (fun u => u.elim (za_ne (by omega) (by omega) y) (za_ne (by omega) (by omega) z))] at ih
          refine bX10_meetingsOf_38 hw ?_
          rw [(shl_01 (k := i) (by omega)).1, za_or, Nat.or_zero, nI_1]
          exact ih
        · exact yes (Or.inr (za_eq (by omega) (by omega) z))
  exact key 0 (Nat.zero_le _)
theorem tX10_mostAt {f : Nat → Nat} {o : Nat} (hw : w.1 = cs t) (hH : RMH h w) (hh : aWH h) (ho : o ≤ 6) (hf : ∀ p, p < aNp h → pw_I w 89 (o + p) = nI (f p) ∧ f p < 1000) (k : Q (some (.int (aOp (aGtK f (aNp h))))) w) : px_Call E (d + 1) 0 0 mX10_mostAt [.ref 61, .int (nI o)] w Q := by
  have np := hh.1
  refine eX10_mostAt hw ?_
  have key : ∀ i, i ≤ aNp h → px_W E mX10_mostAt (d + 1) 0 0 4 [.ref 61, .int (nI o), .int (aOp (aGtK f i)), .int (nI i)] [] w Q := by
    refine za_up (aNp h) _ (fun i hi ih => ?_)
    cases hg : aGtK f i with
    | none =>
      refine bX10_mostAt_4 hw (fun q => ?_) (fun q _ => ?_) (fun q z => absurd (show (-1 : Int32) < 0 by decide) z) <;> rw [hH.1.1] at q
      · have : i = aNp h := by have := za_le (by omega) (by omega) q; omega
        subst this
        rw [hg] at k
        exact k
      · have hlt : i < aNp h := za_nle (by omega) (by omega) q
        have ih := ih hlt
        rw [aGtK_0 hg, ← nI_1] at ih
        exact bX10_mostAt_35 hw (bX10_mostAt_37 hw ih)
    | some b =>
      have bl := aGtK_lt hg
      refine bX10_mostAt_4 hw (fun q => ?_) (fun q z => absurd z (show ¬ nI b < 0 from nI_pos (by omega))) (fun q _ => ?_) <;> rw [hH.1.1] at q
      · have : i = aNp h := by have := za_le (by omega) (by omega) q; omega
        subst this
        rw [hg] at k
        exact k
      · have hlt : i < aNp h := za_nle (by omega) (by omega) q
        have ih := ih hlt
        obtain ⟨e1, b1⟩ := hf i hlt
        obtain ⟨e2, b2⟩ := hf b (by omega)
        rw [aGtK_1 hg, ← nI_1] at ih
        refine bX10_mostAt_16 hw (o + i) (nI_add _ _) (by omega) (o + b) (nI_add _ _) (by omega) (fun z => ?_) (fun z => ?_) <;> rw [e1, e2] at z
        · have z := za_le (by omega) (by omega) z
          rw [if_neg (by omega)] at ih
          exact bX10_mostAt_37 hw ih
        · have z := za_nle (by omega) (by omega) z
          rw [if_pos z] at ih
          exact bX10_mostAt_35 hw (bX10_mostAt_37 hw ih)
  exact key 0 (Nat.zero_le _)
theorem tX10_members {n : Nat} (hn : n < 2 ^ 31) (k : Q (some (.int (nI (aPc n)))) w) : px_Call E (d + 1) 0 0 mX10_members [.int (nI n)] w Q := by
  refine eX10_members ?_
  have key : ∀ i, i ≤ 9 → px_W E mX10_members (d + 1) 0 0 4 [.int (nI n), .int (nI (aPcK n i)), .int (nI i)] [] w Q := by
    refine za_up 9 _ (fun i hi ih => ?_)
    refine bX10_members_4 (fun q => ?_) (fun q => ?_)
    · have : i = 9 := by have := za_le (a := 9) (by omega) (by omega) q; omega
      subst this
      exact k
    · have hlt : i < 9 := za_nle (a := 9) (by omega) (by omega) q
      rw [za_tb hn (by omega), nI_add, nI_1]
      exact ih hlt
  exact key 0 (Nat.zero_le _)
theorem tX10_power {b n : Nat} (hn : n < 100) (k : Q (some (.int (nI (b ^ n)))) w) : px_Call E (d + 1) 0 0 mX10_power [.int (nI b), .int (nI n)] w Q := by
  refine eX10_power ?_
  have key : ∀ i, i ≤ n → px_W E mX10_power (d + 1) 0 0 4 [.int (nI b), .int (nI n), .int (nI (b ^ i)), .int (nI i)] [] w Q := by
    refine za_up n _ (fun i hi ih => ?_)
    refine bX10_power_4 (fun q => ?_) (fun q => ?_)
    · have : i = n := by have := za_le (by omega) (by omega) q; omega
      subst this
      exact k
    · have hlt : i < n := za_nle (by omega) (by omega) q
      rw [pk_mul, nI_1, ← Nat.pow_succ]
      exact ih hlt
  exact key 0 (Nat.zero_le _)
theorem tX10_divisor {a b : Nat} (ha : a < 2 ^ 31) (hb : b < 2 ^ 31) (k : Q (some (.int (nI (Nat.gcd b a)))) w) : px_Call E (d + 1) 0 0 mX10_divisor [.int (nI a), .int (nI b)] w Q := by
  refine eX10_divisor ?_
  have key : ∀ y, ∀ x, x < 2 ^ 31 → y < 2 ^ 31 → Nat.gcd y x = Nat.gcd b a → px_W E mX10_divisor (d + 1) 0 0 4 [.null, .null, .int (nI x), .int (nI y), .null] [] w Q := by
    intro y
    induction y using Nat.strongRecOn with
    | ind y ih =>
      intro x hx hy e
      refine bX10_divisor_4 (fun q => ?_) (fun q => ?_)
      · have : y = 0 := by have := za_le (b := 0) hy (by omega) q; omega
        subst this
        rw [Nat.gcd_zero_left] at e
        rw [e]
        exact k
      · have y0 : 0 < y := za_nle (b := 0) hy (by omega) q
        refine bX10_divisor_8 (nI_ne0 y0 hy) ?_
        rw [za_rem hx y0 hy]
        have := Nat.mod_lt x y0
        refine ih (x % y) this y hy (by omega) ?_
        rw [← e, ← Nat.gcd_rec]
  exact key b a ha hb rfl
end MD
