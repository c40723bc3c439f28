/-! the reference: acts, groups, orders, what is seen -/
section MD
variable {E : px_E} {d : Nat} {w : pw_W} {Q : Option Value → pw_W → Prop} {t : ct_T} {h : aH} {s : aS}
theorem tX10_act {R : Nat → aS} {a b : Nat} (s' : aS) (hw : w.1 = cs t) (hn : aNp h ≤ 6) (hS : RMS h s w 89) (hL : ML h R a b w) (e : R a = s) (hab : a ≤ b) (hb : b ≤ 40) (hA : pw_I w 61 63 = nI a)
    (k : ∀ w', agF [90, 91] [63, 64] w w' → RMS h s w' 90 → pw_I w' 61 63 = nI (aKp R a s').2 → pw_I w' 61 64 = 0 → (∀ i, i < (aKp R a s').2 → RMr h ((aKp R a s').1 i) w' 91 (15 * i)) → Q none w') :
    px_Call E (d + 2) 0 0 mX10_act [.ref 61] w Q := by
  have go : ∀ (w1 : pw_W) (R1 : Nat → aS) (c : Nat), c < 40 → agF [90, 91] [63, 64] w w1 → pw_I w1 61 63 = nI c → (∀ i, i < c → RMr h (R1 i) w1 91 (15 * i)) → R1 c = s → (za_u R1 (c + 1) s', c + 1) = aKp R a s' → px_W E mX10_act (d + 2) 0 0 49 [.ref 61, .null] [] w1 Q := by
    intro w1 R1 c hc a1 e1 r1 es ek
    have hw1 := a1.1.trans hw
    have S1 := hS.agF hn a1 (by decide) (by decide)
    refine bX10_act_49 hw1 ?_
    have key : ∀ i, i ≤ 15 → ∀ w2, ag [91] w1 w2 → (∀ j, j < i → pw_I w2 91 (15 * c + j) = pw_I w1 89 j) → (∀ j, ¬ (15 * c ≤ j ∧ j < 15 * c + i) → pw_I w2 91 j = pw_I w1 91 j) → px_W E mX10_act (d + 2) 0 0 51 [.ref 61, .int (nI i)] [] w2 Q := by
      refine za_up 15 _ (fun i hi ih => ?_)
      intro w2 a2 f2 o2
      have hw2 := a2.1.trans hw1
      have e2 : pw_I w2 61 63 = nI c := (a2.I (by decide) _).trans e1
      refine bX10_act_51 hw2 (fun q => ?_) (fun q => ?_)
      · have : i = 15 := by have := za_le (a := 15) (by omega) (by omega) q; omega
        subst this
        rw [e2, nI_1]
        have A3 : agF [90, 91] [63, 64] w (pw_sI (pw_sI w2 61 63 (nI (c + 1))) 61 64 0) := (a1.tr (agF.of (a2.mono (by simp)))).tr ((agF.sI (by decide)).tr (agF.sI (by decide)))
        have A32 : agF [] [63, 64] w2 (pw_sI (pw_sI w2 61 63 (nI (c + 1))) 61 64 0) := (agF.sI (by decide)).tr (agF.sI (by decide))
        refine tX10_fill (hI (hI hw2)) (fun w4 a4 f4 => ?_)
        have A4 : agF [90, 91] [63, 64] w w4 := A3.tr (agF.of (a4.mono (by simp)))
        refine bX10_act_102 (A4.1.trans hw) (k w4 A4 ?_ ?_ ?_ (fun i hi => ?_))
        · exact hS.cp hn (fun j hj => (f4 j hj).trans (A3.I (by decide) (by decide) _))
        · rw [a4.I (by decide), pw_oth (fun _ z => by omega), pw_same, ← ek]
        · rw [a4.I (by decide), pw_same]
        · rw [← ek] at hi ⊢
          have hi : i < c + 1 := hi
          show RMr h (za_u R1 (c + 1) s' i) w4 91 (15 * i)
          rw [za_un (by omega)]
          by_cases ei : i = c
          · subst ei
            rw [es]
            refine S1.r hn (fun j hj => ?_)
            rw [a4.I (by decide), A32.I (by decide) (by decide)]
            exact f2 j hj
          · refine (r1 i (by omega)).eqv hn (fun j hj => ?_)
            rw [a4.I (by decide), A32.I (by decide) (by decide)]
            exact o2 _ (by omega)
      · have hlt : i < 15 := za_nle (a := 15) (by omega) (by omega) q
        refine bX10_act_57 hw2 i rfl hlt (15 * c + i) (by rw [e2, show (15 : Int32) = nI 15 from rfl, pk_mul, nI_add]) (by omega) ?_
        rw [nI_1]
        refine ih hlt _ (a2.tr (ag.sI (by decide))) (fun j hj => ?_) (fun j hj => ?_)
        · by_cases ej : j = i
          · subst ej; rw [pw_same]; exact a2.I (by decide) _
          · rw [pw_oth (fun _ z => ej (by omega))]; exact f2 j (by omega)
        · rw [pw_oth (fun _ z => hj (by omega))]; exact o2 j (by omega)
    exact key 0 (by omega) w1 ag.rf (fun j hj => absurd hj (Nat.not_lt_zero _)) (fun _ _ => rfl)
  refine eX10_act hw (fun q => ?_) (fun q => ?_) <;> rw [hA] at q
  · have q : a ≠ 40 := za_ne (b := 40) (by omega) (by omega) q
    refine go w R a (by omega) agF.rf hA (fun i hi => ?_) e (by unfold aKp; rw [if_pos (by omega)])
    have := hL i (by omega)
    rw [if_pos hi] at this
    exact this
  · have q : a = 40 := za_eq (b := 40) (by omega) (by omega) q
    have key : ∀ i, i ≤ 585 → ∀ w2, ag [91] w w2 → (∀ j, j < i → pw_I w2 91 j = pw_I w 91 (15 + j)) → (∀ j, i ≤ j → pw_I w2 91 j = pw_I w 91 j) → px_W E mX10_act (d + 2) 0 0 11 [.ref 61, .int (nI i)] [] w2 Q := by
      refine za_up 585 _ (fun i hi ih => ?_)
      intro w2 a2 f2 o2
      have hw2 := a2.1.trans hw
      refine bX10_act_11 hw2 (fun y => ?_) (fun y => ?_)
      · have : i = 585 := by have := za_le (a := 585) (by omega) (by omega) y; omega
        subst this
        rw [a2.I (by decide), hA, q]
        have A : agF [90, 91] [63, 64] w (pw_sI w2 61 63 (nI 40 - 1)) := (agF.of (a2.mono (by simp))).tr (agF.sI (by decide))
        refine go _ (fun i => R (i + 1)) 39 (by omega) A (by rw [pw_same]; decide) (fun i hi => ?_) (by rw [← e, q]) (by unfold aKp; rw [if_neg (by omega)])
        have := hL (i + 1) (by omega)
        rw [if_pos (by omega)] at this
        refine this.eqv hn (fun j hj => ?_)
        rw [pw_oth (fun z _ => by omega), f2 _ (by omega), show 15 + (15 * i + j) = 15 * (i + 1) + j by omega]
      · have hlt : i < 585 := za_nle (a := 585) (by omega) (by omega) y
        refine bX10_act_18 hw2 (15 + i) (nI_add 15 i) (by omega) i rfl (by omega) ?_
        rw [nI_1]
        refine ih hlt _ (a2.tr (ag.sI (by decide))) (fun j hj => ?_) (fun j hj => ?_)
        · by_cases ej : j = i
          · subst ej; rw [pw_same]; exact o2 _ (by omega)
          · rw [pw_oth (fun _ z => ej z)]; exact f2 j (by omega)
        · rw [pw_oth (fun _ z => by omega)]; exact o2 j (by omega)
    exact key 0 (by omega) w ag.rf (fun j hj => absurd hj (Nat.not_lt_zero _)) (fun _ _ => rfl)
theorem tX10_exchange {q : aS} {o : Nat} (hw : w.1 = cs t) (hn : aNp h ≤ 6) (hS : RMS h s w 89) (hR : RMr h q w 91 o) (ho : o + 15 ≤ 600) (k : ∀ w', ag [89, 91] w w' → RMS h q w' 89 → RMr h s w' 91 o → Out w w' 91 o 15 → Q none w') :
    px_Call E (d + 1) 0 0 mX10_exchange [.ref 61, .int (nI o)] w Q := by
  refine eX10_exchange hw ?_
  have key : ∀ i, i ≤ 15 → ∀ w1, ag [89, 91] w w1 → (∀ j, j < i → pw_I w1 91 (o + j) = pw_I w 89 j ∧ pw_I w1 89 j = pw_I w 91 (o + j)) → (∀ j, i ≤ j → pw_I w1 89 j = pw_I w 89 j) → (∀ j, ¬ (o ≤ j ∧ j < o + i) → pw_I w1 91 j = pw_I w 91 j) → px_W E mX10_exchange (d + 1) 0 0 2 [.ref 61, .int (nI o), .int (nI i), .null] [] w1 Q := by
    refine za_up 15 _ (fun i hi ih => ?_)
    intro w1 a1 f1 n1 o1
    have hw1 := a1.1.trans hw
    refine bX10_exchange_2 hw1 (fun q => ?_) (fun q => ?_)
    · have : i = 15 := by have := za_le (a := 15) (by omega) (by omega) q; omega
      subst this
      exact k w1 a1 (hR.s hn (fun j hj => (f1 j hj).2)) (hS.r hn (fun j hj => (f1 j hj).1)) o1
    · have hlt : i < 15 := za_nle (a := 15) (by omega) (by omega) q
      refine bX10_exchange_8 hw1 (o + i) (nI_add _ _) (by omega) i rfl hlt ?_
      rw [nI_1]
      refine ih hlt _ (a1.tr ((ag.sI (by decide)).tr (ag.sI (by decide)))) (fun j hj => ?_) (fun j hj => ?_) (fun j hj => ?_)
      · by_cases ej : j = i
        · subst ej
          refine ⟨?_, ?_⟩
          · rw [pw_oth (fun z _ => by omega), pw_same]; exact n1 j (by omega)
          · rw [pw_same]; exact o1 _ (by omega)
        · refine ⟨?_, ?_⟩
          · rw [pw_oth (fun z _ => by omega), pw_oth (fun _ z => ej (by omega))]; exact (f1 j (by omega)).1
          · rw [pw_oth (fun _ z => ej z), pw_oth (fun z _ => by omega)]; exact (f1 j (by omega)).2
      · rw [pw_oth (fun _ z => by omega), pw_oth (fun z _ => by omega)]; exact n1 j (by omega)
      · rw [pw_oth (fun z _ => by omega), pw_oth (fun _ z => hj (by omega))]; exact o1 j (by omega)
  exact key 0 (by omega) w ag.rf (fun j hj => absurd hj (Nat.not_lt_zero _)) (fun _ _ => rfl) (fun _ _ => rfl)
theorem tX10_layGroups {m x : Nat} (hw : w.1 = cs t) (hH : RMH h w) (hS : RMS h s w 89) (hh : aWH h) (hs : aWS h s) (hm : 1 ≤ m) (hm6 : m ≤ 6) (hx : x < 2 ^ 31) (k1 : ∀ w', ag [93] w w' → (∀ q, q < aNp h → pw_I w' 93 q = nI (dgt m (aNp h) x q)) → aPro h (sB s) m x → Q (some (.int 1)) w') (k0 : ∀ w', ag [93] w w' → ¬ aPro h (sB s) m x → Q (some (.int 0)) w') :
    px_Call E (d + 2) 0 0 mX10_layGroups [.ref 61, .int (nI x), .int (nI m)] w Q := by
  have np := hh.1
  have nm := hh.2.1
  refine eX10_layGroups hw ?_
  rw [hH.1.1]
  have key : ∀ i, i ≤ aNp h → ∀ w1, ag [93] w w1 → (∀ q, i ≤ q → q < aNp h → pw_I w1 93 q = nI (dgt m (aNp h) x q)) → px_W E mX10_layGroups (d + 2) 0 0 10 [.ref 61, .null, .int (nI m), .int (nI (x / m ^ (aNp h - i))), .int (nI i - 1), .null] [] w1 Q := by
    intro i
    induction i with
    | zero =>
      intro _ w1 a1 f1
      have hw1 := a1.1.trans hw
      have H1 := hH.ag a1 (by decide)
      have S1 := hS.ag a1 (by decide)
      refine bX10_layGroups_10 hw1 (fun _ => ?_) (fun q => absurd (by decide) q)
      have dl : ∀ q, dgt m (aNp h) x q < 10 := fun q => by have := Nat.mod_lt (x / m ^ (aNp h - 1 - q)) (show 0 < m by omega); unfold dgt; omega
      have key2 : ∀ j, j ≤ aNm h → ∀ y : Int32, ((y = 1 ∧ ∀ i, i < j → (sB s).testBit i = false → dgt m (aNp h) x (aFi h i) ≠ dgt m (aNp h) x (aSe h i)) ∨ (y = 0 ∧ ¬ aPro h (sB s) m x)) → px_W E mX10_layGroups (d + 2) 0 0 41 [.ref 61, .null, .null, .null, .int y, .int (nI j)] [] w1 Q := by
        refine za_up _ _ (fun j hj ih2 => ?_)
        intro y hy
        have y01 : y = 0 ∨ y = 1 := hy.elim (fun z => Or.inr z.1) (fun z => Or.inl z.1)
        have s95 : j < aNm h → ¬ aPro h (sB s) m x → px_W E mX10_layGroups (d + 2) 0 0 95 [.ref 61, .null, .null, .null, .null, .int (nI j)] [] w1 Q := fun jl z => by
          refine bX10_layGroups_95 hw1 (bX10_layGroups_96 hw1 ?_)
          rw [nI_1]
          exact ih2 jl 0 (Or.inr ⟨rfl, z⟩)
        have s91 : j < aNm h → (∀ i, i < j + 1 → (sB s).testBit i = false → dgt m (aNp h) x (aFi h i) ≠ dgt m (aNp h) x (aSe h i)) → px_W E mX10_layGroups (d + 2) 0 0 91 [.ref 61, .null, .null, .null, .null, .int (nI j)] [] w1 Q := fun jl z => by
          refine bX10_layGroups_91 hw1 (bX10_layGroups_96 hw1 ?_)
          rw [nI_1]
          exact ih2 jl 1 (Or.inl ⟨rfl, z⟩)
        refine bX10_layGroups_41 hw1 (fun _ => y01) (fun q => ?_) (fun q z => ?_) (fun q z b => ?_) (fun q z b => ?_) <;> rw [H1.1.2.1] at q
        · have : j = aNm h := by have := za_le (by omega) (by omega) q; omega
          subst this
          rcases hy with ⟨rfl, z⟩ | ⟨rfl, z⟩
          · exact k1 w1 a1 (fun q hq => f1 q (by omega) hq) z
          · exact k0 w1 a1 z
        · have jl : j < aNm h := za_nle (by omega) (by omega) q
          rcases hy with ⟨rfl, y⟩ | ⟨-, y⟩
          · exact absurd z (by decide)
          · exact s95 jl y
        · have jl : j < aNm h := za_nle (by omega) (by omega) q
          rcases hy with ⟨-, y⟩ | ⟨y, -⟩
          · rw [pMbn S1 hs (by omega)] at b
            refine s91 jl (fun i hi hb => ?_)
            by_cases e : i = j
            · subst e; rw [b] at hb; cases hb
            · exact y i (by omega) hb
          · exact absurd y z
        · have jl : j < aNm h := za_nle (by omega) (by omega) q
          rcases hy with ⟨-, y⟩ | ⟨y, -⟩
          · rw [pMbn S1 hs (by omega)] at b
            have b : (sB s).testBit j = false := by cases hb : (sB s).testBit j with
              | false => rfl
              | true => exact absurd hb b
            obtain ⟨e1, e2, -⟩ := H1.2.2.1 j jl
            obtain ⟨g1, g2, -⟩ := hh.2.2.2.2.2.2.2.2.1 j jl
            have d1 := dl (aFi h j)
            have d2 := dl (aSe h j)
            refine bX10_layGroups_64 hw1 j rfl (by omega) (aFi h j) e1 (by omega) (aSe h j) e2 (by omega) (fun u => s95 jl (fun pr => ?_)) (fun u => s91 jl (fun i hi hb => ?_)) <;> rw [f1 _ (Nat.zero_le _) g1, f1 _ (Nat.zero_le _) g2] at u
            · exact pr j jl b (za_eq (by omega) (by omega) u)
            · by_cases e : i = j
              · subst e; exact za_ne (by omega) (by omega) u
              · exact y i (by omega) hb
          · exact absurd y z
      exact key2 0 (by omega) 1 (Or.inl ⟨rfl, fun i hi => absurd hi (Nat.not_lt_zero _)⟩)
    | succ i ih =>
      intro hi w1 a1 f1
      have hw1 := a1.1.trans hw
      rw [nI_pred]
      refine bX10_layGroups_10 hw1 (fun q => absurd q (nI_pos (by omega))) (fun _ => ?_)
      have m0 : ¬ nI m = 0 := nI_ne0 (by omega) (by omega)
      have xl : x / m ^ (aNp h - (i + 1)) < 2 ^ 31 := Nat.lt_of_le_of_lt (Nat.div_le_self _ _) hx
      refine bX10_layGroups_15 hw1 m0 i rfl (by omega) m0 ?_
      rw [pk_div xl (by omega) (by omega), za_rem xl (by omega) (by omega), Nat.div_div_eq_div_mul, ← Nat.pow_succ, show (aNp h - (i + 1)).succ = aNp h - i by omega]
      have e2 : nI i + (-1) = nI i - 1 := (Int32.sub_eq_add_neg _ _).symm
      rw [e2]
      refine ih (by omega) _ (a1.tr (ag.sI (by decide))) (fun q h1 h2 => ?_)
      by_cases e : q = i
      · subst e
        rw [pw_same]
        unfold dgt
        rw [show aNp h - (q + 1) = aNp h - 1 - q by omega]
      · rw [pw_oth (fun _ z => e z)]
        exact f1 q (by omega) h2
  have := key (aNp h) (Nat.le_refl _) w ag.rf (fun q h1 h2 => by omega)
  rw [Nat.sub_self, Nat.pow_zero, Nat.div_one] at this
  exact this
theorem pow66 {m n : Nat} (hm : m ≤ 6) (hn : n ≤ 6) : m ^ n ≤ 46656 := by
  have : ∀ m, m ≤ 6 → ∀ n, n ≤ 6 → m ^ n ≤ 46656 := by decide
  exact this m hm n hn
theorem tX10_findGroups {m : Nat} (hw : w.1 = cs t) (hH : RMH h w) (hS : RMS h s w 89) (hh : aWH h) (hs : aWS h s) (hm : 1 ≤ m) (hm6 : m ≤ 6) (k1 : ∀ w' x, ag [93] w w' → (∀ q, q < aNp h → pw_I w' 93 q = nI (dgt m (aNp h) x q)) → x < m ^ aNp h → aPro h (sB s) m x → (∀ y, y < x → ¬ aPro h (sB s) m y) → Q (some (.int 1)) w') (k0 : ∀ w', ag [93] w w' → (∀ y, y < m ^ aNp h → ¬ aPro h (sB s) m y) → Q (some (.int 0)) w') :
    px_Call E (d + 3) 0 0 mX10_findGroups [.ref 61, .int (nI m)] w Q := by
  have np := hh.1
  have pl := pow66 hm6 np
  refine eX10_findGroups hw ?_
  have key : ∀ x, x ≤ m ^ aNp h → ∀ w1, ag [93] w w1 → (∀ y, y < x → ¬ aPro h (sB s) m y) → px_W E mX10_findGroups (d + 3) 0 0 2 [.ref 61, .int (nI m), .int (nI x)] [] w1 Q := by
    refine za_up _ _ (fun x hx ih => ?_)
    intro w1 a1 no
    have hw1 := a1.1.trans hw
    have H1 := hH.ag a1 (by decide)
    have S1 := hS.ag a1 (by decide)
    refine bX10_findGroups_2 hw1 ?_
    rw [H1.1.1]
    refine tX10_power (by omega) ?_
    refine bX10_findGroups_11 hw1 (fun q => ?_) (fun q => ?_)
    · have : x = m ^ aNp h := by have := za_le (by omega) (by omega) q; omega
      subst this
      exact k0 w1 a1 no
    · have hlt : x < m ^ aNp h := za_nle (by omega) (by omega) q
      refine tX10_layGroups hw1 H1 S1 hh hs hm hm6 (by omega) (fun w2 a2 f2 p2 => ?_) (fun w2 a2 p2 => ?_)
      · exact bX10_findGroups_20 (a2.1.trans hw1) (fun z => absurd z (by decide)) (fun _ => k1 w2 x (a1.tr a2) f2 hlt p2 no)
      · refine bX10_findGroups_20 (a2.1.trans hw1) (fun _ => ?_) (fun z => absurd rfl z)
        rw [nI_1]
        refine ih hlt w2 (a1.tr a2) (fun y hy => ?_)
        by_cases e : y = x
        · subst e; exact p2
        · exact no y (by omega)
  exact key 0 (Nat.zero_le _) w ag.rf (fun y hy => absurd hy (Nat.not_lt_zero _))
theorem tX10_nextRow {l : List Nat} (hw : w.1 = cs t) (hl : 1 ≤ l.length) (hl6 : l.length ≤ 6) (hB : lB 6 l) (hR : RL l w 93 0) (hm : pw_I w 61 69 = nI l.length)
    (k1 : ∀ w' l', lNx l = some l' → ag [93] w w' → RL l' w' 93 0 → Q (some (.int 1)) w') (k0 : lNx l = none → Q (some (.int 0)) w) :
    px_Call E (d + 2) 0 0 mX10_nextRow [.ref 61] w Q := by
  have R0 : ∀ {l : List Nat} {w : pw_W}, RL l w 93 0 → ∀ k, k < l.length → pw_I w 93 k = nI (lG l k) := fun h k hk => by have := h k hk; rw [Nat.zero_add] at this; exact this
  have SW : ∀ {l : List Nat} {w : pw_W} {i j : Nat}, RL l w 93 0 → i < l.length → j < l.length → RL (lSw l i j) (pw_sI (pw_sI w 93 i (pw_I w 93 j)) 93 j (pw_I w 93 i)) 93 0 := fun h hi hj => by
    have := h.sw hi hj
    rw [Nat.zero_add, Nat.zero_add] at this
    exact this
  refine eX10_nextRow hw ?_
  have e0 : nI l.length - 2 = nI (l.length - 1) - 1 := by
    rw [show l.length = (l.length - 1) + 1 by omega, ← nI_1, sub2]
    rfl
  rw [hm, e0]
  have rev : ∀ f i j m (w1 : pw_W) (l1 : List Nat), j < i + 2 * f → i + j < 100 → j < l.length → l1.length = l.length → ag [93] w w1 → RL l1 w1 93 0 → (∀ w', ag [93] w w' → RL (lRv (f + m) l1 i j) w' 93 0 → Q (some (.int 1)) w') → px_W E mX10_nextRow (d + 2) 0 0 86 [.ref 61, .null, .null, .int (nI i), .int (nI j)] [] w1 Q := by
    intro f
    induction f with
    | zero =>
      intro i j m w1 l1 h1 h100 h2 h3 a1 R1 kk
      refine bX10_nextRow_86 (a1.1.trans hw) (fun _ => ?_) (fun q => ?_)
      · have := kk w1 a1
        cases m with
        | zero => exact this R1
        | succ m => exact this (by rw [Nat.zero_add, lRv_s, if_neg (by omega)]; exact R1)
      · have := za_nle (a := j) (b := i) (by omega) (by omega) q
        omega
    | succ f ih =>
      intro i j m w1 l1 h1 h100 h2 h3 a1 R1 kk
      have hw1 := a1.1.trans hw
      rw [show f + 1 + m = (f + m) + 1 by omega, lRv_s] at kk
      refine bX10_nextRow_86 hw1 (fun q => ?_) (fun q => ?_)
      · have := za_le (a := j) (b := i) (by omega) (by omega) q
        rw [if_neg (by omega)] at kk
        exact kk w1 a1 R1
      · have z : i < j := za_nle (a := j) (b := i) (by omega) (by omega) q
        rw [if_pos z] at kk
        refine eX10_swap hw1 i rfl (by omega) j rfl (by omega) ?_
        refine bX10_nextRow_99 (hI (hI hw1)) ?_
        rw [nI_1, show nI j + (-1) = nI (j - 1) by rw [show j = (j - 1) + 1 by omega, pk_m1]; rfl]
        exact ih (i + 1) (j - 1) m _ (lSw l1 i j) (by omega) (by omega) (by omega) (by rw [lSw_len]; exact h3) (a1.tr ((ag.sI (by decide)).tr (ag.sI (by decide)))) (SW R1 (by omega) (by omega)) kk
  have low : ∀ k, k ≤ l.length - 1 → lLow l (l.length - 1) = lLow l k → px_W E mX10_nextRow (d + 2) 0 0 7 [.ref 61, .int (nI k - 1), .null, .null, .null] [] w Q := by
    intro k
    induction k with
    | zero =>
      intro hk e
      refine bX10_nextRow_7 hw (fun _ => ?_) (fun q => absurd (by decide) q)
      refine bX10_nextRow_34 hw (fun q => absurd q (by decide)) (fun _ => k0 ?_)
      unfold lNx
      rw [e]
      rfl
    | succ k ih =>
      intro hk e
      rw [nI_pred]
      have bk := hB k (by omega)
      have bk1 := hB (k + 1) (by omega)
      refine bX10_nextRow_7 hw (fun q => absurd q (nI_pos (by omega))) (fun _ => ?_)
      refine bX10_nextRow_11 hw k rfl (by omega) (k + 1) (nI_1 _) (by omega) (fun q => ?_) (fun q => ?_) <;> rw [R0 hR k (by omega), R0 hR (k + 1) (by omega)] at q
      · have q := za_le (by omega) (by omega) q
        have ek : lLow l (l.length - 1) = some k := by rw [e, lLow_s, if_neg (by omega)]
        refine bX10_nextRow_34 hw (fun _ => ?_) (fun z => absurd (nI_pos' (by omega)) z)
        have e1 : nI l.length - 1 = nI (l.length - 1) := pk_sub (b := 1) (by omega)
        rw [hm, e1]
        have hi : ∀ j, k < j → j < l.length → lHi l (lG l k) (l.length - 1) = lHi l (lG l k) j → px_W E mX10_nextRow (d + 2) 0 0 47 [.ref 61, .int (nI k), .int (nI j), .null, .null] [] w Q := by
          intro j
          induction j with
          | zero => intro z; omega
          | succ j ihj =>
            intro j1 j2 ej
            have bj := hB (j + 1) (by omega)
            rw [lHi_s] at ej
            refine bX10_nextRow_47 hw (j + 1) rfl (by omega) k rfl (by omega) (fun z => ?_) (fun z => ?_) <;> rw [R0 hR k (by omega), R0 hR (j + 1) (by omega)] at z
            · have z := za_le (by omega) (by omega) z
              rw [if_neg (by omega)] at ej
              refine eX10_swap hw k rfl (by omega) (j + 1) rfl (by omega) ?_
              refine bX10_nextRow_74 (hI (hI hw)) ?_
              have hm2 : pw_I (pw_sI (pw_sI w 93 k (pw_I w 93 (j + 1))) 93 (j + 1) (pw_I w 93 k)) 61 69 = nI l.length := by
                rw [pw_oth (fun z _ => by omega), pw_oth (fun z _ => by omega)]; exact hm
              rw [hm2, e1, nI_1]
              exact rev 6 (k + 1) (l.length - 1) 0 _ (lSw l k (j + 1)) (by omega) (by omega) (by omega) (lSw_len _ _ _) ((ag.sI (by decide)).tr (ag.sI (by decide))) (SW hR (by omega) (by omega)) (fun w' a' R' => k1 w' _ (lNx_k ek ej) a' R')
            · have z := za_nle (by omega) (by omega) z
              rw [if_pos z] at ej
              rw [pk_m1]
              refine ihj ?_ (by omega) ej
              by_cases y : j = k
              · subst y; omega
              · omega
        exact hi (l.length - 1) (by omega) (by omega) rfl
      · have q := za_nle (by omega) (by omega) q
        have e2 : nI k + (-1) = nI k - 1 := (Int32.sub_eq_add_neg _ _).symm
        rw [e2]
        refine ih (by omega) ?_
        rw [e, lLow_s, if_pos q]
  exact low _ (Nat.le_refl _) rfl
theorem lSK_s (l : List Nat) (k : Nat) : lSK l (k + 1) = if l.contains k then lSK l k ++ [k] else lSK l k := by
  unfold lSK
  rw [List.range_succ, List.filter_append]
  by_cases z : l.contains k
  · rw [if_pos z]; simp only [List.filter_cons, z, if_true, List.filter_nil]
  · rw [if_neg z]; simp only [List.filter_cons, z, List.filter_nil, List.append_nil]; simp
theorem lSK_le (l : List Nat) : ∀ k, (lSK l k).length ≤ k
  | 0 => Nat.le_refl _
  | k + 1 => by
    have := lSK_le l k
    rw [lSK_s]
    split
    · rw [List.length_append]; show _ + 1 ≤ _; omega
    · omega
theorem lSK_np {l : List Nat} {n : Nat} (h : ∀ x ∈ l, x < n) : ∀ k, n ≤ k → lSK l k = lSK l n := by
  intro k hk
  induction k with
  | zero => rw [show n = 0 by omega]
  | succ k ih =>
    by_cases e : n = k + 1
    · rw [e]
    · rw [lSK_s, if_neg (fun z => by have := h k (by simpa using z); omega), ih (by omega)]
theorem lG_app {l : List Nat} {x k : Nat} (hk : k < l.length + 1) : lG (l ++ [x]) k = if k = l.length then x else lG l k := by
  unfold lG
  rw [List.getD_eq_getElem?_getD, List.getD_eq_getElem?_getD]
  by_cases e : k = l.length
  · subst e; rw [if_pos rfl, List.getElem?_append_right (Nat.le_refl _), Nat.sub_self]; rfl
  · rw [if_neg e, List.getElem?_append_left (by omega)]
theorem tX10_layRow {b : Nat} (hw : w.1 = cs t) (hH : RMH h w) (hR : RMR h (aRo h) w) (hh : aWH h) (hb : b < aNb h) (k : ∀ w', agF [93] [69] w w' → RL (lSK (roL h b) (aNp h)) w' 93 0 → pw_I w' 61 69 = nI (lSK (roL h b) (aNp h)).length → Q none w') :
    px_Call E (d + 1) 0 0 mX10_layRow [.ref 61, .int (nI b)] w Q := by
  have np := hh.1
  have nb := hh.2.2.1
  obtain ⟨-, c4, c5⟩ := hh.2.2.2.2.2.2.2.2.2.1 b hb
  refine eX10_layRow hw ?_
  have key : ∀ p, p ≤ aNp h → ∀ w1, agF [93] [69] w w1 → RL (lSK (roL h b) p) w1 93 0 → pw_I w1 61 69 = nI (lSK (roL h b) p).length → px_W E mX10_layRow (d + 1) 0 0 7 [.ref 61, .int (nI b), .int (nI p), .null, .null] [] w1 Q := by
    refine za_up _ _ (fun p hp ih => ?_)
    intro w1 a1 R1 m1
    have hw1 := a1.1.trans hw
    have H1 := hH.agF a1 (by decide) (by decide)
    have O1 := hR.agF a1 (by decide)
    refine bX10_layRow_7 hw1 (fun q => ?_) (fun q => ?_) <;> rw [H1.1.1] at q
    · have : p = aNp h := by have := za_le (by omega) (by omega) q; omega
      subst this
      exact k w1 a1 R1 m1
    · have hlt : p < aNp h := za_nle (by omega) (by omega) q
      have key2 : ∀ j, j ≤ aRs h b → ∀ y : Int32, ((y = 1 ∧ (roL h b).contains p = true) ∨ (y = 0 ∧ ∀ i, i < j → aRo h (6 * b + i) ≠ p)) → px_W E mX10_layRow (d + 1) 0 0 20 [.ref 61, .int (nI b), .int (nI p), .int y, .int (nI j)] [] w1 Q := by
        refine za_up _ _ (fun j hj ih2 => ?_)
        intro y hy
        have s51 : j < aRs h b → (roL h b).contains p = true → px_W E mX10_layRow (d + 1) 0 0 51 [.ref 61, .int (nI b), .int (nI p), .null, .int (nI j)] [] w1 Q := fun jl z => by
          refine bX10_layRow_51 hw1 (bX10_layRow_56 hw1 ?_)
          rw [nI_1]
          exact ih2 jl 1 (Or.inl ⟨rfl, z⟩)
        have e88 := (H1.2.2.2.1 b hb).2
        refine bX10_layRow_20 hw1 b rfl (by omega) (fun q z => ?_) (fun q z => ?_) (fun q z => ?_) (fun q z => ?_) <;> rw [e88] at q
        · rcases hy with ⟨-, y⟩ | ⟨y, -⟩
          · have ll := lSK_le (roL h b) p
            refine bX10_layRow_70 hw1 (lSK (roL h b) p).length m1 (by omega) (bX10_layRow_90 (hI (hI hw1)) ?_)
            rw [nI_1, m1, nI_1]
            refine ih hlt _ (a1.tr ((agF.sC (by decide)).tr (agF.sI (by decide)))) (fun i hi => ?_) (by rw [pw_same, lSK_s, if_pos y, List.length_append]; rfl)
            rw [lSK_s, if_pos y] at hi ⊢
            rw [List.length_append] at hi
            have hi : i < (lSK (roL h b) p).length + 1 := hi
            rw [Nat.zero_add, lG_app hi, pw_oth (fun z _ => by omega)]
            by_cases e : i = (lSK (roL h b) p).length
            · rw [if_pos e, e]; exact pw_same
            · rw [if_neg e, pw_oth (fun _ z => e z)]
              have := R1 i (by omega)
              rw [Nat.zero_add] at this
              exact this
          · exact absurd y z
        · have : j = aRs h b := by have := za_le (by omega) (by omega) q; omega
          subst this
          rcases hy with ⟨rfl, -⟩ | ⟨-, y⟩
          · exact absurd z (by decide)
          · have nc : ¬ (roL h b).contains p = true := by
              intro u
              have u : p ∈ roL h b := by simpa using u
              obtain ⟨i, hi, e⟩ := List.mem_map.mp u
              exact y i (List.mem_range.mp hi) e
            refine bX10_layRow_90 hw1 ?_
            rw [nI_1]
            refine ih hlt w1 a1 ?_ ?_
            · rw [lSK_s, if_neg nc]; exact R1
            · rw [lSK_s, if_neg nc]; exact m1
        · have jl : j < aRs h b := za_nle (by omega) (by omega) q
          rcases hy with ⟨-, y⟩ | ⟨y, -⟩
          · exact s51 jl y
          · exact absurd y z
        · have jl : j < aRs h b := za_nle (by omega) (by omega) q
          rcases hy with ⟨rfl, -⟩ | ⟨-, y⟩
          · exact absurd z (by decide)
          · have rl := hh.2.2.2.2.2.2.2.2.2.2.1 b hb j jl
            refine bX10_layRow_35 hw1 (6 * b + j) (by rw [show (6 : Int32) = nI 6 from rfl, pk_mul, nI_add]) (by omega) (fun u => ?_) (fun u => ?_) <;> rw [O1 b hb j jl] at u
            · have u := za_ne (by omega) (by omega) u
              refine bX10_layRow_56 hw1 ?_
              rw [nI_1]
              refine ih2 jl 0 (Or.inr ⟨rfl, fun i hi => ?_⟩)
              by_cases e : i = j
              · subst e; exact u
              · exact y i (by omega)
            · have u := za_eq (by omega) (by omega) u
              refine s51 jl ?_
              have : p ∈ roL h b := List.mem_map.mpr ⟨j, List.mem_range.mpr jl, u⟩
              simpa using this
      exact key2 0 (by omega) 0 (Or.inr ⟨rfl, fun i hi => absurd hi (Nat.not_lt_zero _)⟩)
  exact key 0 (by omega) _ (agF.sI (by decide)) (fun i hi => absurd hi (Nat.not_lt_zero _)) pw_same
end MD
