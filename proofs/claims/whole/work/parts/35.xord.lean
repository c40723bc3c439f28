/-! orders: on the class's side -/
/-- a row in a cell -/
def RL (l : List Nat) (w : pw_W) (a o : Nat) : Prop := ∀ k, k < l.length → pw_I w a (o + k) = nI (lG l k)
theorem RL.sw {l : List Nat} {w : pw_W} {a o i j : Nat} (h : RL l w a o) (hi : i < l.length) (hj : j < l.length) : RL (lSw l i j) (pw_sI (pw_sI w a (o + i) (pw_I w a (o + j))) a (o + j) (pw_I w a (o + i))) a o := by
  intro k hk
  rw [lSw_len] at hk
  rw [lSw_at hi hj]
  by_cases h1 : k = j
  · subst h1
    rw [if_pos rfl, pw_same]
    exact h i hi
  · rw [if_neg h1, pw_oth (fun _ z => h1 (by omega))]
    by_cases h2 : k = i
    · subst h2
      rw [if_pos rfl, pw_same]
      exact h j hj
    · rw [if_neg h2, pw_oth (fun _ z => h2 (by omega))]
      exact h k hk
theorem RL.ag {l : List Nat} {w w' : pw_W} {a o : Nat} {S : List Nat} (h : RL l w a o) (ha : ag S w w') (n : a ∉ S) : RL l w' a o := fun k hk => (ha.I n _).trans (h k hk)
/-- but for a piece of a row -/
def Out (w w' : pw_W) (a o n : Nat) : Prop := ∀ k, ¬ (o ≤ k ∧ k < o + n) → pw_I w' a k = pw_I w a k
theorem Out.sw {w w' : pw_W} {a o n i j : Nat} {x y : Int32} (h : Out w w' a o n) (hi : i < n) (hj : j < n) : Out w (pw_sI (pw_sI w' a (o + i) x) a (o + j) y) a o n := by
  intro k hk
  rw [pw_oth (fun _ z => hk (by omega)), pw_oth (fun _ z => hk (by omega))]
  exact h k hk
theorem sub2 (x : Int32) : x + 1 - 2 = x - 1 := by
  have e : (1 : Int32) + -2 = -1 := by decide
  rw [Int32.sub_eq_add_neg, Int32.sub_eq_add_neg, Int32.add_assoc, e]
theorem m1_lt {o : Nat} (ho : o < 2 ^ 31) : nI o - 1 < nI o := by
  cases o with
  | zero => decide
  | succ j => rw [nI_pred]; exact (nI_ltI (by omega) (by omega)).mpr (by omega)
section XO
variable {E : px_E} {d : Nat} {w : pw_W} {Q : Option Value → pw_W → Prop} {t : ct_T} {h : aH} {s : aS} {r0 : Nat}
theorem tX4_turn {l : List Nat} {o : Nat} (hw : w.1 = cs t) (hl : 1 ≤ l.length) (ho : o + l.length ≤ 12) (hl6 : l.length ≤ 6) (hB : lB 6 l) (hR : RL l w 45 o)
    (k1 : ∀ w' l', lNx l = some l' → ag [45] w w' → Out w w' 45 o l.length → RL l' w' 45 o → Q (some (.int 1)) w') (k0 : lNx l = none → Q (some (.int 0)) w) :
    px_Call E (d + 2) 0 0 mX4_turnToNextOrder [.ref 41, .int (nI o), .int (nI l.length)] w Q := by
  refine eX4_turnToNextOrder hw ?_
  have e0 : nI o + nI l.length - 2 = nI (o + (l.length - 1)) - 1 := by
    rw [nI_add, show o + l.length = (o + (l.length - 1)) + 1 by omega, ← nI_1, sub2]
  rw [e0]
  have rev : ∀ f i j m (w1 : pw_W) (l1 : List Nat), j < i + 2 * f → i + j < 100 → j < l.length → l1.length = l.length → lB 6 l1 → ag [45] w w1 → Out w w1 45 o l.length → RL l1 w1 45 o → (∀ w', ag [45] w w' → Out w w' 45 o l.length → RL (lRv (f + m) l1 i j) w' 45 o → Q (some (.int 1)) w') → px_W E mX4_turnToNextOrder (d + 2) 0 0 95 [.ref 41, .null, .null, .null, .null, .int (nI (o + i)), .int (nI (o + j))] [] w1 Q := by
    intro f
    induction f with
    | zero =>
      intro i j m w1 l1 h1 h100 h2 h3 h4 a1 o1 R1 kk
      refine bX4_turnToNextOrder_95 (a1.1.trans hw) (fun _ => ?_) (fun q => ?_)
      · have := kk w1 a1 o1
        cases m with
        | zero => exact this R1
        | succ m => exact this (by rw [Nat.zero_add]; unfold lRv; rw [if_neg (by omega)]; exact R1)
      · have := za_nle (a := o + j) (b := o + i) (by omega) (by omega) q
        omega
    | succ f ih =>
      intro i j m w1 l1 h1 h100 h2 h3 h4 a1 o1 R1 kk
      have hw1 := a1.1.trans hw
      rw [show f + 1 + m = (f + m) + 1 by omega, lRv_s] at kk
      refine bX4_turnToNextOrder_95 hw1 (fun q => ?_) (fun q => ?_)
      · by_cases z : i < j
        · have : ¬ nI (o + j) ≤ nI (o + i) := fun y => by
            have := za_le (a := o + j) (b := o + i) (by omega) (by omega) y
            omega
          exact absurd q this
        · rw [if_neg z] at kk
          exact kk w1 a1 o1 R1
      · have z : i < j := by
          by_cases z : i < j
          · exact z
          · exact absurd ((nI_leI (a := o + j) (b := o + i) (by omega) (by omega)).mpr (by omega)) q
        rw [if_pos z] at kk
        refine eX4_swapTried hw1 (o + i) rfl (by omega) (o + j) rfl (by omega) ?_
        refine bX4_turnToNextOrder_110 (hI (hI hw1)) ?_
        rw [nI_1, show o + j = (o + (j - 1)) + 1 by omega, pk_m1, show o + i + 1 = o + (i + 1) by omega, show o + (j - 1) + 1 = o + j by omega]
        exact ih (i + 1) (j - 1) m _ (lSw l1 i j) (by omega) (by omega) (by omega) (by rw [lSw_len]; exact h3) (lSw_B h4 (by omega) (by omega)) (a1.tr ((ag.sI (by decide)).tr (ag.sI (by decide)))) (o1.sw (by omega) (by omega)) (R1.sw (by omega) (by omega)) kk
  have low : ∀ k, k ≤ l.length - 1 → lLow l (l.length - 1) = lLow l k → px_W E mX4_turnToNextOrder (d + 2) 0 0 6 [.ref 41, .int (nI o), .int (nI l.length), .int (nI (o + k) - 1), .null, .null, .null] [] w Q := by
    intro k
    induction k with
    | zero =>
      intro hk e
      have m1 := m1_lt (o := o) (by omega)
      refine bX4_turnToNextOrder_6 hw (fun _ => ?_) (fun q => absurd (by rw [Nat.add_zero]; exact m1) q)
      refine bX4_turnToNextOrder_34 hw (fun q => ?_) (fun _ => k0 ?_)
      · rw [Nat.add_zero] at q
        exact absurd m1 (Int32.not_lt.mpr q)
      · unfold lNx
        rw [e]
        rfl
    | succ k ih =>
      intro hk e
      rw [show o + (k + 1) = (o + k) + 1 by omega, nI_pred]
      have bk := hB k (by omega)
      have bk1 := hB (k + 1) (by omega)
      have no : ¬ nI (o + k) < nI o := fun z => by
        have := za_lt (a := o + k) (b := o) (by omega) (by omega) z
        omega
      refine bX4_turnToNextOrder_6 hw (fun q => absurd q no) (fun _ => ?_)
      refine bX4_turnToNextOrder_11 hw (o + k) rfl (by omega) (o + (k + 1)) (nI_1 _) (by omega) (fun q => ?_) (fun q => ?_) <;> rw [hR k (by omega), hR (k + 1) (by omega)] at q
      · have q := za_le (by omega) (by omega) q
        have ek : lLow l (l.length - 1) = some k := by rw [e]; unfold lLow; rw [if_neg (by omega)]
        refine bX4_turnToNextOrder_34 hw (fun _ => ?_) (fun z => absurd (Int32.not_lt.mp no) z)
        have e1 : nI o + nI l.length - 1 = nI (o + (l.length - 1)) := by
          rw [nI_add, show o + l.length = (o + (l.length - 1)) + 1 by omega, nI_pred]
        rw [e1]
        have fin : ∀ j, k < j → j < l.length → lHi l (lG l k) (l.length - 1) = j → px_W E mX4_turnToNextOrder (d + 2) 0 0 76 [.ref 41, .int (nI o), .int (nI l.length), .int (nI (o + k)), .int (nI (o + j)), .null, .null] [] w Q := by
          intro j j1 j2 ej
          refine bX4_turnToNextOrder_76 hw (eX4_swapTried hw (o + k) rfl (by omega) (o + j) rfl (by omega) ?_)
          refine bX4_turnToNextOrder_83 (hI (hI hw)) ?_
          rw [e1, nI_1, show o + k + 1 = o + (k + 1) by omega]
          refine rev 6 (k + 1) (l.length - 1) 0 _ (lSw l k j) (by omega) (by omega) (by omega) (lSw_len _ _ _) (lSw_B hB (by omega) (by omega)) ((ag.sI (by decide)).tr (ag.sI (by decide))) (Out.sw (fun _ _ => rfl) (by omega) (by omega)) (hR.sw (by omega) (by omega)) (fun w' a' o' R' => k1 w' _ ?_ a' o' R')
          exact lNx_k ek ej
        have hi : ∀ j, k < j → j < l.length → lHi l (lG l k) (l.length - 1) = lHi l (lG l k) j → px_W E mX4_turnToNextOrder (d + 2) 0 0 48 [.ref 41, .int (nI o), .int (nI l.length), .int (nI (o + k)), .int (nI (o + j)), .null, .null] [] w Q := by
          intro j
          induction j with
          | zero => intro z; omega
          | succ j ihj =>
            intro j1 j2 ej
            have no2 : ¬ nI (o + (j + 1)) ≤ nI (o + k) := fun z => by
              have := za_le (a := o + (j + 1)) (b := o + k) (by omega) (by omega) z
              omega
            have bj := hB (j + 1) (by omega)
            rw [lHi_s] at ej
            refine bX4_turnToNextOrder_48 hw (fun z => absurd z no2) (fun _ => ?_)
            refine bX4_turnToNextOrder_54 hw (o + (j + 1)) rfl (by omega) (o + k) rfl (by omega) (fun z => ?_) (fun z => ?_) <;> rw [hR k (by omega), hR (j + 1) (by omega)] at z
            · have z := za_le (by omega) (by omega) z
              rw [if_neg (by omega)] at ej
              exact fin (j + 1) j1 j2 ej
            · have z := za_nle (by omega) (by omega) z
              rw [if_pos z] at ej
              rw [show o + (j + 1) = (o + j) + 1 by omega, pk_m1]
              refine ihj ?_ (by omega) ej
              by_cases y : j = k
              · subst y; omega
              · omega
        exact hi (l.length - 1) (by omega) (by omega) rfl
      · have q := za_nle (by omega) (by omega) q
        have e2 : nI (o + k) + (-1) = nI (o + k) - 1 := (Int32.sub_eq_add_neg _ _).symm
        rw [e2]
        refine ih (by omega) ?_
        rw [e]
        conv => lhs; unfold lLow
        rw [if_pos q]
  exact low _ (Nat.le_refl _) rfl
theorem tX4_sort {l : List Nat} {o : Nat} (hw : w.1 = cs t) (ho : o + l.length ≤ 12) (hB : lB 6 l) (hR : RL l w 45 o)
    (k : ∀ w', ag [45] w w' → Out w w' 45 o l.length → RL (lS1 l.length l 0) w' 45 o → (lS1 l.length l 0).length = l.length → lB 6 (lS1 l.length l 0) → Q none w') :
    px_Call E (d + 2) 0 0 mX4_sortFromLeast [.ref 41, .int (nI o), .int (nI l.length)] w Q := by
  refine eX4_sortFromLeast hw ?_
  have key : ∀ i, i ≤ l.length → ∀ (w1 : pw_W) (l1 : List Nat), l1.length = l.length → lB 6 l1 → ag [45] w w1 → Out w w1 45 o l.length → RL l1 w1 45 o → lS1 (l.length - i) l1 i = lS1 l.length l 0 → px_W E mX4_sortFromLeast (d + 2) 0 0 2 [.ref 41, .int (nI o), .int (nI l.length), .int (nI (o + i)), .null] [] w1 Q := by
    refine za_up l.length _ (fun i hi ih => ?_)
    intro w1 l1 n1 b1 a1 o1 R1 e1
    have hw1 := a1.1.trans hw
    refine bX4_sortFromLeast_2 hw1 (fun q => ?_) (fun q => ?_) <;> rw [nI_add] at q
    · have : i = l.length := by have := za_le (a := o + l.length) (b := o + i) (by omega) (by omega) q; omega
      subst this
      rw [Nat.sub_self] at e1
      have e1 : l1 = lS1 l.length l 0 := e1
      subst e1
      exact k w1 a1 o1 R1 n1 b1
    · have hlt : i < l.length := by have := za_nle (a := o + l.length) (b := o + i) (by omega) (by omega) q; omega
      rw [nI_1, show o + i + 1 = o + (i + 1) by omega]
      rw [show l.length - i = (l.length - (i + 1)) + 1 by omega] at e1
      rw [lS1_s] at e1
      have key2 : ∀ j, j ≤ l.length → i < j → ∀ (w2 : pw_W) (l2 : List Nat), l2.length = l.length → lB 6 l2 → ag [45] w w2 → Out w w2 45 o l.length → RL l2 w2 45 o → lS2 (l.length - j) l2 i j = lS2 (l1.length - (i + 1)) l1 i (i + 1) → px_W E mX4_sortFromLeast (d + 2) 0 0 14 [.ref 41, .int (nI o), .int (nI l.length), .int (nI (o + i)), .int (nI (o + j))] [] w2 Q := by
        refine za_up l.length _ (fun j hj ih2 => ?_)
        intro ij w2 l2 n2 b2 a2 o2 R2 e2
        have hw2 := a2.1.trans hw
        refine bX4_sortFromLeast_14 hw2 (fun q => ?_) (fun q => ?_) <;> rw [nI_add] at q
        · have : j = l.length := by have := za_le (a := o + l.length) (b := o + j) (by omega) (by omega) q; omega
          subst this
          rw [Nat.sub_self] at e2
          have e2 : l2 = lS2 (l1.length - (i + 1)) l1 i (i + 1) := e2
          rw [← e2] at e1
          rw [nI_1, show o + i + 1 = o + (i + 1) by omega]
          exact ih hlt w2 l2 n2 b2 a2 o2 R2 e1
        · have jl : j < l.length := by have := za_nle (a := o + l.length) (b := o + j) (by omega) (by omega) q; omega
          rw [show l.length - j = (l.length - (j + 1)) + 1 by omega] at e2
          rw [lS2_s] at e2
          have bi := b2 i (by omega)
          have bj := b2 j (by omega)
          refine bX4_sortFromLeast_22 hw2 (o + j) rfl (by omega) (o + i) rfl (by omega) (fun z => ?_) (fun z => ?_) <;> rw [R2 i (by omega), R2 j (by omega)] at z
          · have z := za_le (by omega) (by omega) z
            rw [if_neg (by omega)] at e2
            refine bX4_sortFromLeast_45 hw2 ?_
            rw [nI_1, show o + j + 1 = o + (j + 1) by omega]
            exact ih2 jl (by omega) w2 l2 n2 b2 a2 o2 R2 e2
          · have z := za_nle (by omega) (by omega) z
            rw [if_pos z] at e2
            refine eX4_swapTried hw2 (o + i) rfl (by omega) (o + j) rfl (by omega) ?_
            refine bX4_sortFromLeast_45 (hI (hI hw2)) ?_
            rw [nI_1, show o + j + 1 = o + (j + 1) by omega]
            exact ih2 jl (by omega) _ (lSw l2 i j) (by rw [lSw_len]; exact n2) (lSw_B b2 (by omega) (by omega)) (a2.tr ((ag.sI (by decide)).tr (ag.sI (by decide)))) (o2.sw (by omega) (by omega)) (R2.sw (by omega) (by omega)) e2
      exact key2 (i + 1) (by omega) (by omega) w1 l1 n1 b1 a1 o1 R1 (by rw [n1])
  exact key 0 (Nat.zero_le _) w l rfl hB ag.rf (fun _ _ => rfl) hR rfl
end XO
