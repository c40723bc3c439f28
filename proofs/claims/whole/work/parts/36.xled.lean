/-! the class: the best order; rows of states -/
theorem pw_As {w : pw_W} {r k : Nat} {f : Nat → Int32} : pw_I (pw_sA w r f) r k = f k := by rw [pw_I_sA, if_pos rfl]
theorem pw_Ao {w : pw_W} {r a k : Nat} {f : Nat → Int32} (h : a ≠ r) : pw_I (pw_sA w r f) a k = pw_I w a k := by rw [pw_I_sA, if_neg h]
theorem va_in {f g : Nat → Int32} {i j n k : Nat} (h : j ≤ k ∧ k < j + n) : va_cpy f g i j n k = f (i + (k - j)) := by
  unfold va_cpy
  rw [if_pos h]
theorem va_out {f g : Nat → Int32} {i j n k : Nat} (h : ¬ (j ≤ k ∧ k < j + n)) : va_cpy f g i j n k = g k := by
  unfold va_cpy
  rw [if_neg h]
section XO
variable {E : px_E} {d : Nat} {w : pw_W} {Q : Option Value → pw_W → Prop} {t : ct_T} {h : aH} {s : aS} {r0 : Nat}
def R45 (h : aH) (b : Nat) (l : List Nat) (w : pw_W) : Prop := RL l w 45 (6 * b) ∧ ∀ b', b' < aNb h → b' ≠ b → ∀ k, k < aRs h b' → pw_I w 45 (6 * b' + k) = nI (aRo h (6 * b' + k))
theorem R45.ag {b : Nat} {l : List Nat} {w' : pw_W} {S : List Nat} (hR : R45 h b l w) (ha : ag S w w') (n : 45 ∉ S) : R45 h b l w' := ⟨hR.1.ag ha n, fun b' h1 h2 k hk => (ha.I n _).trans (hR.2 b' h1 h2 k hk)⟩
theorem R45.ro {b : Nat} {l : List Nat} (hR : R45 h b l w) (hh : aWH h) (hb : b < aNb h) (hl : l.length = aRs h b) : RXR h (roB h b l) w 45 := by
  intro b' hb' k hk
  have c5 := (hh.2.2.2.2.2.2.2.2.2.1 b hb).2.2
  have c6 := (hh.2.2.2.2.2.2.2.2.2.1 b' hb').2.2
  unfold roB
  by_cases e : b' = b
  · subst e
    rw [if_pos (by omega), show 6 * b' + k - 6 * b' = k by omega]
    exact hR.1 k (by omega)
  · rw [if_neg (by omega)]
    exact hR.2 b' hb' e k hk
theorem R45.out {b : Nat} {l l' : List Nat} {w' : pw_W} (hR : R45 h b l w) (hh : aWH h) (hb : b < aNb h) (hl : l.length = aRs h b) (ho : Out w w' 45 (6 * b) l.length) (hR' : RL l' w' 45 (6 * b)) : R45 h b l' w' := by
  have c5 := (hh.2.2.2.2.2.2.2.2.2.1 b hb).2.2
  refine ⟨hR', fun b' h1 h2 k hk => ?_⟩
  have c6 := (hh.2.2.2.2.2.2.2.2.2.1 b' h1).2.2
  rw [ho _ (by omega)]
  exact hR.2 b' h1 h2 k hk
theorem xd_B {k : Nat} (h0 : is_Hamlet r0) (hk : k ≤ 11) : r0 + k ∉ [42, 43, 44, 45, 60, r0 + 12] := by
  rcases h0 with rfl | rfl <;> simp <;> omega
theorem xd_B35 (h0 : is_Hamlet r0) : 35 ∉ [42, 43, 44, 45, 60, r0 + 12] ∧ 35 + 1 ∉ [42, 43, 44, 45, 60, r0 + 12] ∧ 35 + 2 ∉ [42, 43, 44, 45, 60, r0 + 12] := by
  rcases h0 with rfl | rfl <;> simp
theorem tX4_bestOrder {b n : Nat} (hw : w.1 = cs t) (hr0 : is_Hamlet r0) (hH : RXH h w r0) (hS : RXS h s w 35) (hh : aWH h) (hs : aWS h s) (hb : b < aNb h) (hn : sD s + n < 5000)
    (k : ∀ w', ag [42, 43, 44, 45, 60, r0 + 12] w w' → RL (aBO h s b n).2 w' 60 0 → Q (some (.int (nI (aBO h s b n).1))) w') :
    px_Call E (d + 6) 0 0 mX4_bestOrder [.ref 41, .ref r0, .ref 35, .int (nI b), .int (nI n), .ref 60] w Q := by
  have np := hh.1
  have nb := hh.2.2.1
  have h6 : (6 : Nat) < 2 ^ 31 := by decide
  obtain ⟨-, c4, c5⟩ := hh.2.2.2.2.2.2.2.2.2.1 b hb
  obtain ⟨y1, y2, y3⟩ := xd_B35 hr0
  have ne9 : r0 + 9 ≠ 45 := by rcases hr0 with rfl | rfl <;> decide
  have n45 : 45 ∉ [42, 43, 44, r0 + 12] := by rcases hr0 with rfl | rfl <;> simp
  have n60 : 60 ∉ [42, 43, 44, r0 + 12] := by rcases hr0 with rfl | rfl <;> simp
  refine eX4_bestOrder hw hr0 sh60 h6 b rfl (by omega) ?_
  have e6 : nI b * 6 = nI (6 * b) := by rw [show (6 : Int32) = nI 6 from rfl, pk_mul, Nat.mul_comm]
  have eR : ∀ j, j < 12 → pw_I (pw_sA w 45 (va_cpy (pw_I w (r0 + 9)) (pw_I w 45) 0 0 12)) 45 j = pw_I w (r0 + 9) j := fun j hj => by
    rw [pw_As, va_in ⟨by omega, by omega⟩]
    congr 1
    omega
  have R1 : R45 h b (roL h b) (pw_sA w 45 (va_cpy (pw_I w (r0 + 9)) (pw_I w 45) 0 0 12)) := by
    refine ⟨fun j hj => ?_, fun b' h1 h2 j hj => ?_⟩
    · rw [roL_len] at hj
      rw [eR _ (by omega), roL_at hj]
      exact hH.2.2.2.2.1 b hb j hj
    · have c6 := (hh.2.2.2.2.2.2.2.2.2.1 b' h1).2.2
      rw [eR _ (by omega)]
      exact hH.2.2.2.2.1 b' h1 j hj
  have A1 : ag [42, 43, 44, 45, 60, r0 + 12] w (pw_sA w 45 (va_cpy (pw_I w (r0 + 9)) (pw_I w 45) 0 0 12)) := ag.sA (by simp)
  rw [e6, (hH.2.2.2.1 b hb).2]
  have hw1 : (pw_sA w 45 (va_cpy (pw_I w (r0 + 9)) (pw_I w 45) 0 0 12)).1 = cs t := hA hw
  generalize pw_sA w 45 (va_cpy (pw_I w (r0 + 9)) (pw_I w 45) 0 0 12) = w1 at R1 A1 hw1 ⊢
  have lBB : lB (aNp h) (roL h b) := fun j hj => by rw [lG_at hj]; exact roL_B hh hb _ (List.getElem_mem hj)
  have lB6 : ∀ {l : List Nat}, lB (aNp h) l → lB 6 l := fun hl j hj => by have := hl j hj; omega
  have el : nI (aRs h b) = nI (roL h b).length := by rw [roL_len]
  rw [el]
  refine tX4_sort hw1 (by rw [roL_len]; omega) (lB6 lBB) R1.1 (fun w2 a2 o2 R2 n2 b2 => ?_)
  rw [lSrt_inj (aRs h b) c5 _ (roL_in hh hb)] at R2 n2 b2
  have A2 : ag [42, 43, 44, 45, 60, r0 + 12] w w2 := A1.tr (a2.mono (by simp))
  have R2 : R45 h b (lSK (roL h b) 6) w2 := R1.out hh hb (roL_len h b) o2 R2
  rw [roL_len] at n2
  have hw2 := a2.1.trans hw1
  refine bX4_bestOrder_40 hw2 hr0 sh60 h6 ?_
  rw [roL_len]
  have lt1000 : ∀ l, oHu h s b n l < 1000 := fun l => oHu_lt hh hs hn
  have key : ∀ m i, i + m = 720 → ∀ (w1 : pw_W) (l : List Nat) (q : Nat × List Nat), l.length = aRs h b → lB (aNp h) l → lEnd m l = true → ag [42, 43, 44, 45, 60, r0 + 12] w w1 → R45 h b l w1 → RL q.2 w1 60 0 → q.1 < 2 ^ 31 → boK (oHu h s b n) m l q = aBO h s b n → px_W E mX4_bestOrder (d + 6) 0 0 50 [.ref 41, .ref r0, .ref 35, .null, .int (nI n), .ref 60, .int (nI (6 * b)), .int (nI (aRs h b)), .int (nI q.1), .int 1, .int (nI i), .null] [] w1 Q := by
    intro m
    induction m with
    | zero => intro i _ w1 l q _ _ he; cases he
    | succ m ih =>
      intro i him w1 l q hl hB he a1 R1 O1 q1 eq
      have hw1 := a1.1.trans hw
      have S1 := hS.ag a1 y1 y2 y3
      refine bX4_bestOrder_50 hw1 hr0 sh60 h6 (fun z => absurd z (by decide)) (fun _ z => ?_) (fun _ _ => ?_)
      · have := za_le (a := 720) (by omega) (by omega) z; omega
      refine tX8_copyFrom hw1 np S1 (fun w2 a2 S2 => ?_)
      have hw2 := a2.1.trans hw1
      have A2 : ag [42, 43, 44, 45, 60, r0 + 12] w w2 := a1.tr (a2.mono (by simp))
      have R2 := R1.ag a2 (by decide)
      refine bX4_bestOrder_71 hw2 hr0 sh60 h6 (tX4_goOn hw2 hr0 rfl n45 (hH.ag A2 (fun k hk => xd_B hr0 hk)) S2 (R2.ro hh hb hl) hh hs (roB_W hh hb hl hB) hn (fun w3 a3 _ => ?_))
      have hw3 := a3.1.trans hw2
      have A3 : ag [42, 43, 44, 45, 60, r0 + 12] w w3 := A2.tr (a3.mono (by intro a; simp; omega))
      have R3 := R2.ag a3 n45
      have O3 : RL q.2 w3 60 0 := (O1.ag a2 (by decide)).ag a3 n60
      have fl := lt1000 l
      unfold lEnd at he
      have nxt : ∀ (w4 : pw_W) (q' : Nat × List Nat), ag [42, 43, 44, 45, 60, r0 + 12] w w4 → R45 h b l w4 → RL q'.2 w4 60 0 → q'.1 < 2 ^ 31 → (if oHu h s b n l < q.1 then (oHu h s b n l, l) else q) = q' → px_W E mX4_bestOrder (d + 6) 0 0 115 [.ref 41, .ref r0, .ref 35, .null, .int (nI n), .ref 60, .int (nI (6 * b)), .int (nI (aRs h b)), .int (nI q'.1), .null, .int (nI i), .null] [] w4 Q := by
        intro w4 q' A4 R4 O4 q4 e4
        have hw4 := A4.1.trans hw
        refine bX4_bestOrder_115 hw4 hr0 sh60 h6 ?_
        rw [← hl]
        refine tX4_turn hw4 (by omega) (by omega) (by omega) (lB6 hB) R4.1 (fun w5 l' e5 a5 o5 R5 => ?_) (fun e5 => ?_)
        · rw [boK_so e5, e4] at eq
          rw [e5] at he
          obtain ⟨n5, b5⟩ := lNx_ok (c := aNp h) e5
          refine bX4_bestOrder_123 (a5.1.trans hw4) hr0 sh60 h6 ?_
          rw [nI_1, hl]
          exact ih (i + 1) (by omega) w5 l' q' (n5.trans hl) (b5 hB) he (A4.tr (a5.mono (by simp))) (R4.out hh hb hl o5 R5) (O4.ag a5 (by decide)) q4 eq
        · rw [boK_no e5, e4] at eq
          refine bX4_bestOrder_123 hw4 hr0 sh60 h6 ?_
          refine bX4_bestOrder_50 hw4 hr0 sh60 h6 (fun _ => ?_) (fun z => absurd rfl z) (fun z => absurd rfl z)
          refine bX4_bestOrder_131 (r1 := r0) (r2 := 35) (r5 := 60) hw4 hr0 sh60 h6 ?_
          rw [eq]
          exact k w4 A4 (by rw [← eq]; exact O4)
      refine bX4_bestOrder_82 hw3 hr0 sh60 h6 (fun z => ?_) (fun z => ?_)
      · have z : q.1 ≤ oHu h s b n l := za_le q1 (by omega) z
        exact nxt w3 q A3 R3 O3 q1 (if_neg (by omega))
      · have z : oHu h s b n l < q.1 := za_nle q1 (by omega) z
        refine bX4_bestOrder_91 hw3 hr0 sh60 h6 (6 * b) rfl (aRs h b) ?_ (by omega) (by omega) ?_
        · rw [za_min (by omega) (by omega), Nat.min_eq_left c5]
        · refine nxt _ (oHu h s b n l, l) (A3.tr (ag.sA (by simp))) (R3.ag (S := [60]) (ag.sA (by decide)) (by decide)) (fun j hj => ?_) (by omega) (if_pos z)
          have hj : j < aRs h b := by rw [← hl]; exact hj
          rw [pw_As, va_in ⟨by omega, by omega⟩, show 6 * b + (0 + j - 0) = 6 * b + j by omega]
          exact R3.1 j (by omega)
  refine key 720 0 rfl w2 (lSK (roL h b) 6) (2147483647, []) n2 (lSK_B (roL_B hh hb) 6) (lEnd_SK _) A2 R2 (fun j hj => absurd hj (Nat.not_lt_zero _)) (by decide) ?_
  exact boK_first (m := 719) (by have := lt1000 (lSK (roL h b) 6); show _ < 2147483647; omega) (by have := lt1000 (lSK (roL h b) 6); show _ < 1000000; omega)
/-! rows of states -/
def RXr (h : aH) (s : aS) (w : pw_W) (a o : Nat) : Prop := (∀ i, i < aNp h → pw_I w a (o + i) = nI (sL s i)) ∧ (∀ i, i < aNp h → pw_I w a (o + 6 + i) = nI (sF s i)) ∧ pw_I w a (o + 12) = nI (sB s) ∧ pw_I w a (o + 13) = nI (sD s) ∧ pw_I w a (o + 14) = nI (sE s)
theorem RXr.eqv {w' : pw_W} {a o o' : Nat} (hn : aNp h ≤ 6) (hR : RXr h s w a o) (e : ∀ k, k < 15 → pw_I w' a (o' + k) = pw_I w a (o + k)) : RXr h s w' a o' :=
  ⟨fun i hi => (e i (by omega)).trans (hR.1 i hi), fun i hi => by rw [show o' + 6 + i = o' + (6 + i) by omega, e (6 + i) (by omega), show o + (6 + i) = o + 6 + i by omega]; exact hR.2.1 i hi, (e 12 (by omega)).trans hR.2.2.1, (e 13 (by omega)).trans hR.2.2.2.1, (e 14 (by omega)).trans hR.2.2.2.2⟩
theorem RXr.ag {w' : pw_W} {a o : Nat} {S : List Nat} (hn : aNp h ≤ 6) (hR : RXr h s w a o) (ha : ag S w w') (n : a ∉ S) : RXr h s w' a o := hR.eqv hn (fun k _ => ha.I n _)
theorem tX8_writeTo {a n j : Nat} (hw : w.1 = cs t) (hn6 : aNp h ≤ 6) (hS : RXS h s w 35) (hsa : (cs t).2.1 a = (100, n)) (hna : n < 10000) (hj : 15 * j + 15 ≤ n) (ha : a ∉ [35, 36, 37]) (k : ∀ w', ag [a] w w' → Out w w' a (15 * j) 15 → RXr h s w' a (15 * j) → Q none w') :
    px_Call E (d + 1) 0 0 mX8_writeTo [.ref 35, .ref a, .int (nI j)] w Q := by
  have hn : n < 2 ^ 31 := by omega
  have e15 : nI j * 15 = nI (15 * j) := by rw [show (15 : Int32) = nI 15 from rfl, pk_mul, Nat.mul_comm]
  have ne0 : ¬ 35 = a := fun z => ha (by rw [← z]; decide)
  have ne1 : ¬ 35 + 1 = a := fun z => ha (by rw [← z]; decide)
  have ne2 : ¬ 35 + 2 = a := fun z => ha (by rw [← z]; decide)
  refine eX8_writeTo hw st35 hsa hn (fun z => ?_) (fun _ _ => ?_) (fun _ z => ?_)
  · rw [e15] at z; exact absurd z (nI_pos (by omega))
  · rw [e15]
    refine bX8_writeTo_19 hw st35 hsa hn (15 * j) rfl (by omega) (15 * j + 6) (nI_add _ 6) (by omega) ?_
    refine bX8_writeTo_46 (hA (hA hw)) st35 hsa hn (15 * j + 12) (nI_add _ 12) (by omega) (15 * j + 13) ((congrArg (· + 1) (nI_add _ 12)).trans (nI_1 _)) (by omega) ?_
    refine bX8_writeTo_68 (hI (hI (hA (hA hw)))) st35 hsa hn (15 * j + 14) ((congrArg (· + 2) (nI_add _ 12)).trans (nI_add _ 2)) (by omega) ?_
    refine k _ (((ag.sA List.mem_cons_self).tr (ag.sA List.mem_cons_self)).tr (((ag.sI List.mem_cons_self).tr (ag.sI List.mem_cons_self)).tr (ag.sI List.mem_cons_self))) (fun i hi => ?_) ⟨fun i hi => ?_, fun i hi => ?_, ?_, ?_, ?_⟩
    · rw [pw_oth (fun _ z => hi (by omega)), pw_oth (fun _ z => hi (by omega)), pw_oth (fun _ z => hi (by omega)), pw_As, va_out (by omega), pw_As, va_out (by omega)]
    · rw [pw_oth (fun _ z => by omega), pw_oth (fun _ z => by omega), pw_oth (fun _ z => by omega), pw_As, va_out (by omega), pw_As, va_in (by omega), show 0 + (15 * j + i - 15 * j) = i by omega]
      exact hS.1 i hi
    · rw [pw_oth (fun _ z => by omega), pw_oth (fun _ z => by omega), pw_oth (fun _ z => by omega), pw_As, va_in (by omega), pw_Ao ne2, show 0 + (15 * j + 6 + i - (15 * j + 6)) = i by omega]
      exact hS.2.1 i hi
    · rw [pw_oth (fun _ z => by omega), pw_oth (fun _ z => by omega), pw_same, pw_Ao ne0, pw_Ao ne0]
      exact hS.2.2.1
    · rw [pw_oth (fun _ z => by omega), pw_same, pw_oth (fun z _ => ne0 z), pw_Ao ne0, pw_Ao ne0]
      exact hS.2.2.2.1
    · rw [pw_same, pw_oth (fun z _ => ne0 z), pw_oth (fun z _ => ne0 z), pw_Ao ne0, pw_Ao ne0]
      exact hS.2.2.2.2
  · rw [e15] at z
    refine absurd ?_ z
    rw [show nI (15 * j) + 15 = nI (15 * j + 15) from nI_add _ 15]
    exact (nI_leI (by omega) (by omega)).mpr hj
theorem tX8_readFrom {a n j : Nat} (hw : w.1 = cs t) (hn6 : aNp h ≤ 6) (hR : RXr h s w a (15 * j)) (hsa : (cs t).2.1 a = (100, n)) (hna : n < 10000) (hj : 15 * j + 15 ≤ n) (ha : a ∉ [35, 36, 37]) (k : ∀ w', ag [35, 36, 37] w w' → RXS h s w' 35 → Q none w') :
    px_Call E (d + 1) 0 0 mX8_readFrom [.ref 35, .ref a, .int (nI j)] w Q := by
  have hn : n < 2 ^ 31 := by omega
  have e15 : nI j * 15 = nI (15 * j) := by rw [show (15 : Int32) = nI 15 from rfl, pk_mul, Nat.mul_comm]
  have ne0 : ¬ a = 35 := fun z => ha (by rw [z]; decide)
  have ne1 : ¬ a = 35 + 1 := fun z => ha (by rw [z]; decide)
  have ne2 : ¬ a = 35 + 2 := fun z => ha (by rw [z]; decide)
  refine eX8_readFrom hw st35 hsa hn (fun z => ?_) (fun _ _ => ?_) (fun _ z => ?_)
  · rw [e15] at z; exact absurd z (nI_pos (by omega))
  · rw [e15]
    refine bX8_readFrom_19 hw st35 hsa hn (15 * j) rfl (by omega) (15 * j + 6) (nI_add _ 6) (by omega) ?_
    refine bX8_readFrom_46 (hA (hA hw)) st35 hsa hn (15 * j + 12) (nI_add _ 12) (by omega) (15 * j + 13) ((congrArg (· + 1) (nI_add _ 12)).trans (nI_1 _)) (by omega) ?_
    refine bX8_readFrom_68 (hI (hI (hA (hA hw)))) st35 hsa hn (15 * j + 14) ((congrArg (· + 2) (nI_add _ 12)).trans (nI_add _ 2)) (by omega) ?_
    refine k _ (((ag.sA (by decide)).tr (ag.sA (by decide))).tr (((ag.sI (by decide)).tr (ag.sI (by decide))).tr (ag.sI (by decide)))) ⟨fun i hi => ?_, fun i hi => ?_, ?_, ?_, ?_⟩
    · rw [pw_oth (fun z _ => by omega), pw_oth (fun z _ => by omega), pw_oth (fun z _ => by omega), pw_Ao (by decide), pw_As, va_in (by omega), show 15 * j + (i - 0) = 15 * j + i by omega]
      exact hR.1 i hi
    · rw [pw_oth (fun z _ => by omega), pw_oth (fun z _ => by omega), pw_oth (fun z _ => by omega), pw_As, va_in (by omega), pw_Ao ne1, show 15 * j + 6 + (i - 0) = 15 * j + 6 + i by omega]
      exact hR.2.1 i hi
    · rw [pw_oth (fun _ z => by omega), pw_oth (fun _ z => by omega), pw_same, pw_Ao ne2, pw_Ao ne1]
      exact hR.2.2.1
    · rw [pw_oth (fun _ z => by omega), pw_same, pw_oth (fun z _ => ne0 z), pw_Ao ne2, pw_Ao ne1]
      exact hR.2.2.2.1
    · rw [pw_same, pw_oth (fun z _ => ne0 z), pw_oth (fun z _ => ne0 z), pw_Ao ne2, pw_Ao ne1]
      exact hR.2.2.2.2
  · rw [e15] at z
    refine absurd ?_ z
    rw [show nI (15 * j) + 15 = nI (15 * j + 15) from nI_add _ 15]
    exact (nI_leI (by omega) (by omega)).mpr hj
theorem tX8_setAsTold {r1 : Nat} (hw : w.1 = cs t) (hr1 : is_State r1) (hr0 : is_Hamlet r0) (hH : RXH h w r0) (hh : aWH h) (k : ∀ w', ag [r1, r1 + 1, r1 + 2] w w' → RXS h (aFm h, aLu h, 0, 0, aDr h) w' r1 → Q none w') :
    px_Call E (d + 1) 0 0 mX8_setAsTold [.ref r1, .ref r0] w Q := by
  have np := hh.1
  have n1 : ¬ r0 + 1 = r1 + 1 := by rcases hr0 with rfl | rfl <;> rcases hr1 with rfl | rfl | rfl <;> decide
  have n0 : r0 ≠ r1 := xd_H0 hr0 hr1
  have n2 : r0 ≠ r1 + 1 := by rcases hr0 with rfl | rfl <;> rcases hr1 with rfl | rfl | rfl <;> decide
  have n3 : r0 ≠ r1 + 2 := by rcases hr0 with rfl | rfl <;> rcases hr1 with rfl | rfl | rfl <;> decide
  refine eX8_setAsTold hw hr1 hr0 ?_
  refine bX8_setAsTold_30 (hA (hA hw)) hr1 hr0 ?_
  refine bX8_setAsTold_40 (hI (hI (hA (hA hw)))) hr1 hr0 (k _ (((ag.sA (by simp)).tr (ag.sA (by simp))).tr (((ag.sI (by simp)).tr (ag.sI (by simp))).tr (ag.sI (by simp)))) ⟨fun i hi => ?_, fun i hi => ?_, ?_, ?_, ?_⟩)
  · rw [pw_oth (fun z _ => by omega), pw_oth (fun z _ => by omega), pw_oth (fun z _ => by omega), pw_Ao (by omega), pw_As, va_in (by omega), show 0 + (i - 0) = i by omega]
    exact (hH.2.1 i hi).2.2
  · rw [pw_oth (fun z _ => by omega), pw_oth (fun z _ => by omega), pw_oth (fun z _ => by omega), pw_As, va_in (by omega), pw_Ao n1, show 0 + (i - 0) = i by omega]
    exact (hH.2.1 i hi).1
  · rw [pw_oth (fun _ z => by omega), pw_oth (fun _ z => by omega), pw_same]
    rfl
  · rw [pw_oth (fun _ z => by omega), pw_same]
    rfl
  · rw [pw_same, pw_oth (fun z _ => n0 z), pw_oth (fun z _ => n0 z), pw_Ao n3, pw_Ao n2]
    exact hH.1.2.2.2.2.2
end XO
